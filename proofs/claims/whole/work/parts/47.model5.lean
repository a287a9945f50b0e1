/-! ===== the reference: what a search brings ===== -/
section MSK
theorem oA.eqI {t : Nat} {h : am_H} {q n : Nat} {g g' : Int → Int} (a : oA t h q n g) (e : ∀ j : Int, 0 ≤ j → j < n → iI (g' j) = iI (g j)) : oA t h q n g' := by
  obtain ⟨f, o, c⟩ := a
  exact ⟨f, o, fun j hj => by rw [c j hj, e j (by omega) (by omega)]⟩
/-- the arrays that searches work with -/
def Wp (h : am_H) : Prop := (∃ g, oI h 127 64 g) ∧ (∃ g, oI h 128 64 g) ∧ ∃ g, oI h 129 64 g
def Wk (h : am_H) : Prop := (∃ g, oA 2 h 126 48 g) ∧ Wp h
theorem Wp.mv {h h' : am_H} {S : Nat → Prop} (a : Wp h) (f : fr S h h') (h1 : ¬ S 127) (h2 : ¬ S 128) (h3 : ¬ S 129) : Wp h' := by
  obtain ⟨⟨_, b1⟩, ⟨_, b2⟩, ⟨_, b3⟩⟩ := a
  exact ⟨⟨_, b1.fr f h1⟩, ⟨_, b2.fr f h2⟩, ⟨_, b3.fr f h3⟩⟩
theorem Wk.mv {h h' : am_H} {S : Nat → Prop} (a : Wk h) (f : fr S h h') (h0 : ¬ S 126) (h1 : ¬ S 127) (h2 : ¬ S 128) (h3 : ¬ S 129) : Wk h' := by
  obtain ⟨⟨_, b⟩, c⟩ := a
  exact ⟨⟨_, b.fr f h0⟩, c.mv f h1 h2 h3⟩
theorem lp_179 {d : Nat} {h : am_H} {Q : am_R → am_H → Prop} {c th lk pa le sp fi se : Int} (o : Mo h c th lk pa le sp fi se) {F : Int → Int} (a6 : oA 2 h 126 48 F) (hF : f01 F) : ∀ (n : Nat) (m r : Int), r + n = 48 → 0 ≤ r → (Q (.inl (some (.int (iI (m + sm (F) r n))))) h) → am_X d 179 4 [.ref 120, .int (iI m), .int (iI r)] [] h Q
  | 0, m, r, h1, h2, k => by
    have h1 : r = 48 := by omega
    subst h1
    refine ax_iload_n f179_4 rfl ?_
    refine ax_bipush f179_5 ?_
    refine ax_icmp_ge f179_7 rfl ⟨by omega, by omega⟩ ⟨by omega, by omega⟩ (fun q7 => ?_) (fun q7 => absurd q7 (by omega))
    refine ax_iload_n f179_33 rfl ?_
    refine ax_ireturn f179_34 rfl rfl ?_
    rw [sm_0, Int.add_zero] at k; exact k
  | n + 1, m, r, h1, h2, k => by
    have hf := hF r h2 (by omega)
    refine ax_iload_n f179_4 rfl ?_
    refine ax_bipush f179_5 ?_
    refine ax_icmp_ge f179_7 rfl ⟨by omega, by omega⟩ ⟨by omega, by omega⟩ (fun q7 => absurd q7 (by omega)) (fun q7 => ?_)
    refine ax_iload_n f179_10 rfl ?_
    refine ax_aload_n f179_11 rfl ?_
    refine ax_getf f179_12 o rfl ?_
    refine ax_iload_n f179_15 rfl ?_
    refine ax_baldO f179_16 a6 (by omega) (by omega) rfl ?_
    refine ax_if_eq f179_17 rfl ⟨by omega, by omega⟩ (fun q17 => ?_) (fun q17 => ?_)
    · refine ax_iconst f179_24 ?_
      refine ax_iadd f179_25 ?_
      refine ax_istore_n (ls' := [_, _, _]) f179_26 (Nat.le_of_ble_eq_true rfl) rfl ?_
      refine ax_iinc (ls' := [_, _, _]) f179_27 rfl (Nat.le_of_ble_eq_true rfl) rfl ?_
      refine ax_goto f179_30 rfl ?_
      refine lp_179 o a6 hF n _ (r + 1) (by omega) (by omega) ?_
      rw [sm_1, ← Int.add_assoc] at k
      have e : F r = 0 := by omega
      rw [e] at k; exact k
    · refine ax_iconst f179_20 ?_
      refine ax_goto f179_21 rfl ?_
      refine ax_iadd f179_25 ?_
      refine ax_istore_n (ls' := [_, _, _]) f179_26 (Nat.le_of_ble_eq_true rfl) rfl ?_
      refine ax_iinc (ls' := [_, _, _]) f179_27 rfl (Nat.le_of_ble_eq_true rfl) rfl ?_
      refine ax_goto f179_30 rfl ?_
      refine lp_179 o a6 hF n _ (r + 1) (by omega) (by omega) ?_
      rw [sm_1, ← Int.add_assoc] at k
      have e : F r = 1 := by omega
      rw [e] at k; exact k
theorem c_179 {h : am_H} {c th lk pa le sp fi se : Int} (o : Mo h c th lk pa le sp fi se) {F : Int → Int} (a6 : oA 2 h 126 48 F) (hF : f01 F)  : am_X 0 179 0 (am_ent 179 [.ref 120]) [] h (fun r h' => rI r (sm F 0 48) ∧ h' = h) := by
  show am_X 0 179 0 [.ref 120, am_u, am_u] [] h _
  refine ax_iconst f179_0 ?_
  refine ax_istore_n (ls' := [_, _, _]) f179_1 (Nat.le_of_ble_eq_true rfl) rfl ?_
  refine ax_iconst f179_2 ?_
  refine ax_istore_n (ls' := [_, _, _]) f179_3 (Nat.le_of_ble_eq_true rfl) rfl ?_
  exact lp_179 o a6 hF 48 0 0 (by omega) (by omega) ⟨rI_of (Int.zero_add _), rfl⟩
theorem lp_180 {d : Nat} {h : am_H} {Q : am_R → am_H → Prop} {R : Int → Int} {c th lk pa le sp fi se : Int} (o : Mo h c th lk pa le sp fi se) {F : Int → Int} (a6 : oA 2 h 126 48 F) (hF : f01 F) {R' : Int → Int} (a1 : oI h 121 270 R') (eR : ∀ j, 48 ≤ j → j < 96 → R' j = R j) (hA : i01 R 48 48) : ∀ (n : Nat) (m r : Int), r + n = 48 → 0 ≤ r → (Q (.inl (some (.int (iI (m + sm (fun j => if R (48 + j) = 1 then 0 else F j) r n))))) h) → am_X d 180 4 [.ref 120, .int (iI m), .int (iI r)] [] h Q
  | 0, m, r, h1, h2, k => by
    have h1 : r = 48 := by omega
    subst h1
    refine ax_iload_n f180_4 rfl ?_
    refine ax_bipush f180_5 ?_
    refine ax_icmp_ge f180_7 rfl ⟨by omega, by omega⟩ ⟨by omega, by omega⟩ (fun q7 => ?_) (fun q7 => absurd q7 (by omega))
    refine ax_iload_n f180_45 rfl ?_
    refine ax_ireturn f180_46 rfl rfl ?_
    rw [sm_0, Int.add_zero] at k; exact k
  | n + 1, m, r, h1, h2, k => by
    have hf := hF r h2 (by omega)
    have ha := hA r h2 (by omega)
    have er := eR (48 + r) (by omega) (by omega)
    refine ax_iload_n f180_4 rfl ?_
    refine ax_bipush f180_5 ?_
    refine ax_icmp_ge f180_7 rfl ⟨by omega, by omega⟩ ⟨by omega, by omega⟩ (fun q7 => absurd q7 (by omega)) (fun q7 => ?_)
    refine ax_iload_n f180_10 rfl ?_
    refine ax_aload_n f180_11 rfl ?_
    refine ax_getf f180_12 o rfl ?_
    refine ax_iload_n f180_15 rfl ?_
    refine ax_baldO f180_16 a6 (by omega) (by omega) rfl ?_
    refine ax_if_eq f180_17 rfl ⟨by omega, by omega⟩ (fun q17 => ?_) (fun q17 => ?_)
    · refine ax_iconst f180_36 ?_
      refine ax_iadd f180_37 ?_
      refine ax_istore_n (ls' := [_, _, _]) f180_38 (Nat.le_of_ble_eq_true rfl) rfl ?_
      refine ax_iinc (ls' := [_, _, _]) f180_39 rfl (Nat.le_of_ble_eq_true rfl) rfl ?_
      refine ax_goto f180_42 rfl ?_
      refine lp_180 o a6 hF a1 eR hA n _ (r + 1) (by omega) (by omega) ?_
      rw [sm_1, ← Int.add_assoc] at k
      have e : (if R (48 + r) = 1 then 0 else F r) = 0 := by split <;> omega
      rw [e] at k; exact k
    · refine ax_aload_n f180_20 rfl ?_
      refine ax_getf f180_21 o rfl ?_
      refine ax_bipush f180_24 ?_
      refine ax_iload_n f180_26 rfl ?_
      refine ax_iadd f180_27 ?_
      refine ax_ialdO f180_28 (by decide) a1 (by omega) (by omega) rfl ?_
      refine ax_if_ne f180_29 rfl ⟨by omega, by omega⟩ (fun q29 => ?_) (fun q29 => ?_)
      · refine ax_iconst f180_36 ?_
        refine ax_iadd f180_37 ?_
        refine ax_istore_n (ls' := [_, _, _]) f180_38 (Nat.le_of_ble_eq_true rfl) rfl ?_
        refine ax_iinc (ls' := [_, _, _]) f180_39 rfl (Nat.le_of_ble_eq_true rfl) rfl ?_
        refine ax_goto f180_42 rfl ?_
        refine lp_180 o a6 hF a1 eR hA n _ (r + 1) (by omega) (by omega) ?_
        rw [sm_1, ← Int.add_assoc] at k
        have e : (if R (48 + r) = 1 then 0 else F r) = 0 := by split <;> omega
        rw [e] at k; exact k
      · refine ax_iconst f180_32 ?_
        refine ax_goto f180_33 rfl ?_
        refine ax_iadd f180_37 ?_
        refine ax_istore_n (ls' := [_, _, _]) f180_38 (Nat.le_of_ble_eq_true rfl) rfl ?_
        refine ax_iinc (ls' := [_, _, _]) f180_39 rfl (Nat.le_of_ble_eq_true rfl) rfl ?_
        refine ax_goto f180_42 rfl ?_
        refine lp_180 o a6 hF a1 eR hA n _ (r + 1) (by omega) (by omega) ?_
        rw [sm_1, ← Int.add_assoc] at k
        have e : (if R (48 + r) = 1 then 0 else F r) = 1 := by split <;> omega
        rw [e] at k; exact k
theorem c_180 {h : am_H} {R : Int → Int} {c th lk pa le sp fi se : Int} (o : Mo h c th lk pa le sp fi se) {F : Int → Int} (a6 : oA 2 h 126 48 F) (hF : f01 F) {R' : Int → Int} (a1 : oI h 121 270 R') (eR : ∀ j, 48 ≤ j → j < 96 → R' j = R j) (hA : i01 R 48 48)  : am_X 0 180 0 (am_ent 180 [.ref 120]) [] h (fun r h' => rI r (sm (fun j => if R (48 + j) = 1 then 0 else F j) 0 48) ∧ h' = h) := by
  show am_X 0 180 0 [.ref 120, am_u, am_u] [] h _
  refine ax_iconst f180_0 ?_
  refine ax_istore_n (ls' := [_, _, _]) f180_1 (Nat.le_of_ble_eq_true rfl) rfl ?_
  refine ax_iconst f180_2 ?_
  refine ax_istore_n (ls' := [_, _, _]) f180_3 (Nat.le_of_ble_eq_true rfl) rfl ?_
  exact lp_180 o a6 hF a1 eR hA 48 0 0 (by omega) (by omega) ⟨rI_of (Int.zero_add _), rfl⟩
theorem lp_181 {d : Nat} {h : am_H} {Q : am_R → am_H → Prop} {R : Int → Int} {c th lk pa le sp fi se : Int} (o : Mo h c th lk pa le sp fi se) {F : Int → Int} (a6 : oA 2 h 126 48 F) (hF : f01 F) {R' : Int → Int} (a1 : oI h 121 270 R') (eR : ∀ j, 48 ≤ j → j < 96 → R' j = R j) (hA : i01 R 48 48) : ∀ (n : Nat) (m r : Int), r + n = 48 → 0 ≤ r → (Q (.inl (some (.int (iI (m + sm (fun j => if F j = 1 then 0 else R (48 + j)) r n))))) h) → am_X d 181 4 [.ref 120, .int (iI m), .int (iI r)] [] h Q
  | 0, m, r, h1, h2, k => by
    have h1 : r = 48 := by omega
    subst h1
    refine ax_iload_n f181_4 rfl ?_
    refine ax_bipush f181_5 ?_
    refine ax_icmp_ge f181_7 rfl ⟨by omega, by omega⟩ ⟨by omega, by omega⟩ (fun q7 => ?_) (fun q7 => absurd q7 (by omega))
    refine ax_iload_n f181_46 rfl ?_
    refine ax_ireturn f181_47 rfl rfl ?_
    rw [sm_0, Int.add_zero] at k; exact k
  | n + 1, m, r, h1, h2, k => by
    have hf := hF r h2 (by omega)
    have ha := hA r h2 (by omega)
    have er := eR (48 + r) (by omega) (by omega)
    refine ax_iload_n f181_4 rfl ?_
    refine ax_bipush f181_5 ?_
    refine ax_icmp_ge f181_7 rfl ⟨by omega, by omega⟩ ⟨by omega, by omega⟩ (fun q7 => absurd q7 (by omega)) (fun q7 => ?_)
    refine ax_iload_n f181_10 rfl ?_
    refine ax_aload_n f181_11 rfl ?_
    refine ax_getf f181_12 o rfl ?_
    refine ax_iload_n f181_15 rfl ?_
    refine ax_baldO f181_16 a6 (by omega) (by omega) rfl ?_
    refine ax_if_ne f181_17 rfl ⟨by omega, by omega⟩ (fun q17 => ?_) (fun q17 => ?_)
    · refine ax_iconst f181_37 ?_
      refine ax_iadd f181_38 ?_
      refine ax_istore_n (ls' := [_, _, _]) f181_39 (Nat.le_of_ble_eq_true rfl) rfl ?_
      refine ax_iinc (ls' := [_, _, _]) f181_40 rfl (Nat.le_of_ble_eq_true rfl) rfl ?_
      refine ax_goto f181_43 rfl ?_
      refine lp_181 o a6 hF a1 eR hA n _ (r + 1) (by omega) (by omega) ?_
      rw [sm_1, ← Int.add_assoc] at k
      have e : (if F r = 1 then 0 else R (48 + r)) = 0 := by split <;> omega
      rw [e] at k; exact k
    · refine ax_aload_n f181_20 rfl ?_
      refine ax_getf f181_21 o rfl ?_
      refine ax_bipush f181_24 ?_
      refine ax_iload_n f181_26 rfl ?_
      refine ax_iadd f181_27 ?_
      refine ax_ialdO f181_28 (by decide) a1 (by omega) (by omega) rfl ?_
      refine ax_iconst f181_29 ?_
      refine ax_icmp_ne f181_30 rfl ⟨by omega, by omega⟩ ⟨by omega, by omega⟩ (fun q30 => ?_) (fun q30 => ?_)
      · refine ax_iconst f181_37 ?_
        refine ax_iadd f181_38 ?_
        refine ax_istore_n (ls' := [_, _, _]) f181_39 (Nat.le_of_ble_eq_true rfl) rfl ?_
        refine ax_iinc (ls' := [_, _, _]) f181_40 rfl (Nat.le_of_ble_eq_true rfl) rfl ?_
        refine ax_goto f181_43 rfl ?_
        refine lp_181 o a6 hF a1 eR hA n _ (r + 1) (by omega) (by omega) ?_
        rw [sm_1, ← Int.add_assoc] at k
        have e : (if F r = 1 then 0 else R (48 + r)) = 0 := by split <;> omega
        rw [e] at k; exact k
      · refine ax_iconst f181_33 ?_
        refine ax_goto f181_34 rfl ?_
        refine ax_iadd f181_38 ?_
        refine ax_istore_n (ls' := [_, _, _]) f181_39 (Nat.le_of_ble_eq_true rfl) rfl ?_
        refine ax_iinc (ls' := [_, _, _]) f181_40 rfl (Nat.le_of_ble_eq_true rfl) rfl ?_
        refine ax_goto f181_43 rfl ?_
        refine lp_181 o a6 hF a1 eR hA n _ (r + 1) (by omega) (by omega) ?_
        rw [sm_1, ← Int.add_assoc] at k
        have e : (if F r = 1 then 0 else R (48 + r)) = 1 := by split <;> omega
        rw [e] at k; exact k
theorem c_181 {h : am_H} {R : Int → Int} {c th lk pa le sp fi se : Int} (o : Mo h c th lk pa le sp fi se) {F : Int → Int} (a6 : oA 2 h 126 48 F) (hF : f01 F) {R' : Int → Int} (a1 : oI h 121 270 R') (eR : ∀ j, 48 ≤ j → j < 96 → R' j = R j) (hA : i01 R 48 48)  : am_X 0 181 0 (am_ent 181 [.ref 120]) [] h (fun r h' => rI r (sm (fun j => if F j = 1 then 0 else R (48 + j)) 0 48) ∧ h' = h) := by
  show am_X 0 181 0 [.ref 120, am_u, am_u] [] h _
  refine ax_iconst f181_0 ?_
  refine ax_istore_n (ls' := [_, _, _]) f181_1 (Nat.le_of_ble_eq_true rfl) rfl ?_
  refine ax_iconst f181_2 ?_
  refine ax_istore_n (ls' := [_, _, _]) f181_3 (Nat.le_of_ble_eq_true rfl) rfl ?_
  exact lp_181 o a6 hF a1 eR hA 48 0 0 (by omega) (by omega) ⟨rI_of (Int.zero_add _), rfl⟩
theorem lp_178a {d : Nat} {Q : am_R → am_H → Prop} {x3 x4 : Value} {x1 : Int32} {c th lk pa le sp fi se : Int} : ∀ {h : am_H} (o : Mo h c th lk pa le sp fi se) (n : Nat) (r : Int), r + n = 48 → 0 ≤ r → ∀ g : Int → Int, oA 2 h 126 48 g → (∀ j, 0 ≤ j → j < r → g j = 0) → (∀ h' : am_H, oA 2 h' 126 48 (fun _ => 0) → fr (fun x => x = 126) h h' → am_X d 178 26 [.ref 120, .int x1, .int (iI 48), x3, x4] [] h' Q) → am_X d 178 7 [.ref 120, .int x1, .int (iI r), x3, x4] [] h Q
  | h, o, 0, r, h1, h2, g, a6, hg, k => by
    have h1 : r = 48 := by omega
    subst h1
    refine ax_iload_n f178_7 rfl ?_
    refine ax_bipush f178_8 ?_
    refine ax_icmp_ge f178_10 rfl ⟨by omega, by omega⟩ ⟨by omega, by omega⟩ (fun q10 => ?_) (fun q10 => absurd q10 (by omega))
    exact k h (a6.eq fun j j1 j2 => (hg j j1 j2).symm) fr_rf
  | h, o, n + 1, r, h1, h2, g, a6, hg, k => by
    refine ax_iload_n f178_7 rfl ?_
    refine ax_bipush f178_8 ?_
    refine ax_icmp_ge f178_10 rfl ⟨by omega, by omega⟩ ⟨by omega, by omega⟩ (fun q10 => absurd q10 (by omega)) (fun q10 => ?_)
    refine ax_aload_n f178_13 rfl ?_
    refine ax_getf f178_14 o rfl ?_
    refine ax_iload_n f178_17 rfl ?_
    refine ax_iconst f178_18 ?_
    refine ax_bastO f178_19 a6 (by omega) (by omega) rfl (by omega) (fun hp1 o1 r1 => ?_)
    have o : Mo hp1 _ _ _ _ _ _ _ _ := r1.at (q := 120) (by omega) o
    have a6 := o1
    refine ax_iinc (ls' := [_, _, _, _, _]) f178_20 rfl (Nat.le_of_ble_eq_true rfl) rfl ?_
    refine ax_goto f178_23 rfl ?_
    refine lp_178a o n (r + 1) (by omega) (by omega) _ a6 ?_ ?_
    · intro j j1 j2
      unfold uZ
      split
      · rfl
      · exact hg j j1 (by omega)
    · intro h9 a9 f9
      exact k h9 a9 (r1.trans f9)
theorem sea_s0 {R : Int → Int} {w k lk : Int} {n : Nat} {F : Int → Int} (h : R 269 = 0) : sea R w k (n + 1) lk F = sea R w (k + 1) n (srb R w (fro R k) (fro R (k + 1)) (bok R (fro R k) (fro R (k + 1)) - fld R (fro R k) (fro R (k + 1))) (lk + 1) F).1 (srb R w (fro R k) (fro R (k + 1)) (bok R (fro R k) (fro R (k + 1)) - fld R (fro R k) (fro R (k + 1))) (lk + 1) F).2 := by
  simp only [sea, srb, if_pos h]
theorem sea_s1 {R : Int → Int} {w k lk : Int} {n : Nat} {F : Int → Int} (h : ¬ R 269 = 0) : sea R w k (n + 1) lk F = sea R w (k + 1) n (srb R w (fro R k) (fro R (k + 1)) (bok R (fro R k) (fro R (k + 1)) - R (193 + k)) lk F).1 (srb R w (fro R k) (fro R (k + 1)) (bok R (fro R k) (fro R (k + 1)) - R (193 + k)) lk F).2 := by
  simp only [sea, srb, if_neg h]
theorem srb_sp {R : Int → Int} {w x y l lk : Int} {F : Int → Int} (h1 : 0 ≤ x) (h2 : x < y) (h3 : y ≤ 48) (hF : f01 F) : f01 (srb R w x y l lk F).2 ∧ ∀ j, j < x ∨ y ≤ j → (srb R w x y l lk F).2 j = F j := by
  unfold srb
  split
  · have := sr_sp R w 48 x y l lk F h2 (by omega) hF
    exact ⟨this.1, this.2.1⟩
  · exact ⟨hF, fun _ _ => rfl⟩
theorem lp_178b {d : Nat} {Q : am_R → am_H → Prop} {R : Int → Int} {c th le sp fi se w : Int} (i : inv R) (hw : w = 0 ∨ w = 1 ∨ w = 2) : ∀ (n : Nat) {h : am_H} {k lk pa : Int} {F g7 g8 g9 : Int → Int} {x3 x4 : Value} (o : Mo h c th lk pa le sp fi se) (a1 : oI h 121 270 R) (a6 : oA 2 h 126 48 F) (a7 : oI h 127 64 g7) (a8 : oI h 128 64 g8) (a9 : oI h 129 64 g9) (hF1 : f01 F) (hF0 : ∀ j, fro R k ≤ j → j < 48 → F j = 0) (h1 : k + n = blk R) (h2 : 0 ≤ k), (∀ (h' : am_H) (pa' : Int), Mo h' c th (sea R w k n lk F).1 pa' le sp fi se → oA 2 h' 126 48 (sea R w k n lk F).2 → Wp h' → fr (fun x => x = 120 ∨ x = 126 ∨ x = 127 ∨ x = 128 ∨ x = 129) h h' → ∀ {x3 x4 : Value}, am_X (d + 7) 178 131 [.ref 120, .int (iI w), .int (iI (blk R)), x3, x4] [] h' Q) → am_X (d + 7) 178 28 [.ref 120, .int (iI w), .int (iI k), x3, x4] [] h Q
  | 0, h, k, lk, pa, F, g7, g8, g9, x3, x4, o, a1, a6, a7, a8, a9, hF1, hF0, h1, h2, kk => by
    have h1 : k = blk R := by omega
    have hb := i.b12
    refine ax_iload_n f178_28 rfl ?_
    refine ax_aload_n f178_29 rfl ?_
    refine ax_cvI (rest := [_]) f178_30 o rfl rfl rfl rfl rfl rfl rfl rfl (c_151 o a1) ?_
    intro _ e_
    obtain rfl := e_.symm
    clear e_
    refine ax_icmp_ge f178_33 rfl ⟨by omega, by omega⟩ ⟨by omega, by omega⟩ (fun q33 => ?_) (fun q33 => absurd q33 (by omega))
    rw [h1]; exact kk h pa o a6 ⟨⟨_, a7⟩, ⟨_, a8⟩, ⟨_, a9⟩⟩ fr_rf
  | n + 1, h, k, lk, pa, F, g7, g8, g9, x3, x4, o, a1, a6, a7, a8, a9, hF1, hF0, h1, h2, kk => by
    have hb := i.b12
    have hb1 := (fro_sp i.ff k).1
    have hb2 := (fro_sp i.ff (k + 1)).2.1
    have hb3 := (fro_lt i.ff h2 (by omega)).2.2
    have hk := bok_in i.1.1 hb1 (show fro R k ≤ fro R (k + 1) by omega) hb2
    have hk2 := fld_in i.1.1 hb1 (show fro R k ≤ fro R (k + 1) by omega) hb2
    have hsu := i.su h2 (by omega)
    rcases i.tr with ht | ht
    · refine ax_iload_n f178_28 rfl ?_
      refine ax_aload_n f178_29 rfl ?_
      refine ax_cvI (rest := [_]) f178_30 o rfl rfl rfl rfl rfl rfl rfl rfl (c_151 o a1) ?_
      intro _ e_
      obtain rfl := e_.symm
      clear e_
      refine ax_icmp_ge f178_33 rfl ⟨by omega, by omega⟩ ⟨by omega, by omega⟩ (fun q33 => absurd q33 (by omega)) (fun q33 => ?_)
      refine ax_aload_n f178_36 rfl ?_
      refine ax_iload_n f178_37 rfl ?_
      refine ax_cvI (rest := []) f178_38 o rfl rfl rfl rfl rfl rfl rfl rfl (c_154 o a1 i.ff i.b12 ⟨by omega, by omega⟩) ?_
      intro _ e_
      obtain rfl := e_.symm
      clear e_
      refine ax_istore_n (ls' := [_, _, _, _, _]) f178_41 (Nat.le_of_ble_eq_true rfl) rfl ?_
      refine ax_aload_n f178_42 rfl ?_
      refine ax_iload_n f178_43 rfl ?_
      refine ax_iconst f178_44 ?_
      refine ax_iadd f178_45 ?_
      refine ax_cvI (rest := []) f178_46 o rfl rfl rfl rfl rfl rfl rfl rfl (c_154 o a1 i.ff i.b12 ⟨by omega, by omega⟩) ?_
      intro _ e_
      obtain rfl := e_.symm
      clear e_
      refine ax_istore (ls' := [_, _, _, _, _]) f178_49 (Nat.le_of_ble_eq_true rfl) rfl ?_
      refine ax_aload_n f178_51 rfl ?_
      refine ax_dup f178_52 rfl ?_
      refine ax_getf f178_53 o rfl ?_
      refine ax_aload_n f178_56 rfl ?_
      refine ax_getf f178_57 o rfl ?_
      refine ax_sipush f178_60 ?_
      refine ax_ialdO f178_63 (by decide) a1 (by omega) (by omega) rfl ?_
      refine ax_iconst f178_64 ?_
      refine ax_icmp_ne f178_65 rfl ⟨by omega, by omega⟩ ⟨by omega, by omega⟩ (fun q65 => ?_) (fun q65 => absurd q65 (by omega))
      refine ax_iconst f178_72 ?_
      refine ax_iadd f178_73 ?_
      refine ax_putfO f178_74 o rfl rfl rfl rfl (fun hp1 o1 r1 => ?_)
      have o : Mo hp1 _ _ _ _ _ _ _ _ := o1
      have a1 := a1.fr r1 (by omega)
      have a6 := a6.fr r1 (by omega)
      have a7 := a7.fr r1 (by omega)
      have a8 := a8.fr r1 (by omega)
      have a9 := a9.fr r1 (by omega)
      refine ax_aload_n f178_77 rfl ?_
      refine ax_iload_n f178_78 rfl ?_
      refine ax_iload f178_79 rfl ?_
      refine ax_aload_n f178_81 rfl ?_
      refine ax_iload_n f178_82 rfl ?_
      refine ax_iload f178_83 rfl ?_
      refine ax_cvI (rest := [_, _, _]) f178_85 o rfl rfl rfl rfl rfl rfl rfl rfl (c_156 o a1 hb1 (by omega) hb2) ?_
      intro _ e_
      obtain rfl := e_.symm
      clear e_
      refine ax_aload_n f178_88 rfl ?_
      refine ax_getf f178_89 o rfl ?_
      refine ax_sipush f178_92 ?_
      refine ax_ialdO f178_95 (by decide) a1 (by omega) (by omega) rfl ?_
      refine ax_iconst f178_96 ?_
      refine ax_icmp_ne f178_97 rfl ⟨by omega, by omega⟩ ⟨by omega, by omega⟩ (fun q97 => ?_) (fun q97 => absurd q97 (by omega))
      refine ax_aload_n f178_113 rfl ?_
      refine ax_iload_n f178_114 rfl ?_
      refine ax_iload f178_115 rfl ?_
      refine ax_cvI (rest := [_, _, _, _]) f178_117 o rfl rfl rfl rfl rfl rfl rfl rfl (c_157 o a1 i.1.2.1 hb1 (by omega) hb2) ?_
      intro _ e_
      obtain rfl := e_.symm
      clear e_
      refine ax_isub f178_120 ?_
      refine ax_iload_n f178_121 rfl ?_
      refine ax_cvV (rest := []) f178_122 o rfl rfl rfl rfl rfl rfl rfl rfl (c_177 o a1 hw i hb1 hb3 hb2 (by omega) (F0 := F) a6 (fun _ _ _ => rfl) a7 a8 a9 hF1 (fun j j1 j2 => hF0 j j1 (by omega))) ?_
      rintro h8 ⟨o8, ⟨g68, a68, hg68⟩, ⟨⟨g78, a78⟩, ⟨g88, a88⟩, g98, a98⟩, f8⟩
      have a68 := a68.eq fun j j1 j2 => (hg68 j j1 j2).symm
      have o : Mo h8 _ _ _ _ _ _ _ _ := o8
      have a1 := a1.fr f8 (by omega)
      have a6 := a68
      have a7 := a78
      have a8 := a88
      have a9 := a98
      refine ax_iinc (ls' := [_, _, _, _, _]) f178_125 rfl (Nat.le_of_ble_eq_true rfl) rfl ?_
      refine ax_goto f178_128 rfl ?_
      have hsp := srb_sp (R := R) (w := w) (l := bok R (fro R k) (fro R (k + 1)) - fld R (fro R k) (fro R (k + 1))) (lk := lk + 1) hb1 hb3 hb2 hF1
      refine lp_178b i hw n (k := k + 1) o a1 a6 a7 a8 a9 hsp.1 ?_ (by omega) (by omega) ?_
      · intro j j1 j2
        rw [hsp.2 j (by omega)]
        exact hF0 j (by omega) j2
      · intro h7 pa7 o7 a67 w7 f7 x3 x4
        rw [← sea_s0 ht] at o7 a67
        exact kk h7 pa7 o7 a67 w7 ((r1.mono (T := fun x => x = 120 ∨ x = 126 ∨ x = 127 ∨ x = 128 ∨ x = 129) fun x e => by omega).trans ((f8.mono fun x e => by omega).trans f7))
    · refine ax_iload_n f178_28 rfl ?_
      refine ax_aload_n f178_29 rfl ?_
      refine ax_cvI (rest := [_]) f178_30 o rfl rfl rfl rfl rfl rfl rfl rfl (c_151 o a1) ?_
      intro _ e_
      obtain rfl := e_.symm
      clear e_
      refine ax_icmp_ge f178_33 rfl ⟨by omega, by omega⟩ ⟨by omega, by omega⟩ (fun q33 => absurd q33 (by omega)) (fun q33 => ?_)
      refine ax_aload_n f178_36 rfl ?_
      refine ax_iload_n f178_37 rfl ?_
      refine ax_cvI (rest := []) f178_38 o rfl rfl rfl rfl rfl rfl rfl rfl (c_154 o a1 i.ff i.b12 ⟨by omega, by omega⟩) ?_
      intro _ e_
      obtain rfl := e_.symm
      clear e_
      refine ax_istore_n (ls' := [_, _, _, _, _]) f178_41 (Nat.le_of_ble_eq_true rfl) rfl ?_
      refine ax_aload_n f178_42 rfl ?_
      refine ax_iload_n f178_43 rfl ?_
      refine ax_iconst f178_44 ?_
      refine ax_iadd f178_45 ?_
      refine ax_cvI (rest := []) f178_46 o rfl rfl rfl rfl rfl rfl rfl rfl (c_154 o a1 i.ff i.b12 ⟨by omega, by omega⟩) ?_
      intro _ e_
      obtain rfl := e_.symm
      clear e_
      refine ax_istore (ls' := [_, _, _, _, _]) f178_49 (Nat.le_of_ble_eq_true rfl) rfl ?_
      refine ax_aload_n f178_51 rfl ?_
      refine ax_dup f178_52 rfl ?_
      refine ax_getf f178_53 o rfl ?_
      refine ax_aload_n f178_56 rfl ?_
      refine ax_getf f178_57 o rfl ?_
      refine ax_sipush f178_60 ?_
      refine ax_ialdO f178_63 (by decide) a1 (by omega) (by omega) rfl ?_
      refine ax_iconst f178_64 ?_
      refine ax_icmp_ne f178_65 rfl ⟨by omega, by omega⟩ ⟨by omega, by omega⟩ (fun q65 => absurd q65 (by omega)) (fun q65 => ?_)
      refine ax_iconst f178_68 ?_
      refine ax_goto f178_69 rfl ?_
      refine ax_iadd f178_73 ?_
      rw [Int.add_zero]
      refine ax_putfO f178_74 o rfl rfl rfl rfl (fun hp1 o1 r1 => ?_)
      have o : Mo hp1 _ _ _ _ _ _ _ _ := o1
      have a1 := a1.fr r1 (by omega)
      have a6 := a6.fr r1 (by omega)
      have a7 := a7.fr r1 (by omega)
      have a8 := a8.fr r1 (by omega)
      have a9 := a9.fr r1 (by omega)
      refine ax_aload_n f178_77 rfl ?_
      refine ax_iload_n f178_78 rfl ?_
      refine ax_iload f178_79 rfl ?_
      refine ax_aload_n f178_81 rfl ?_
      refine ax_iload_n f178_82 rfl ?_
      refine ax_iload f178_83 rfl ?_
      refine ax_cvI (rest := [_, _, _]) f178_85 o rfl rfl rfl rfl rfl rfl rfl rfl (c_156 o a1 hb1 (by omega) hb2) ?_
      intro _ e_
      obtain rfl := e_.symm
      clear e_
      refine ax_aload_n f178_88 rfl ?_
      refine ax_getf f178_89 o rfl ?_
      refine ax_sipush f178_92 ?_
      refine ax_ialdO f178_95 (by decide) a1 (by omega) (by omega) rfl ?_
      refine ax_iconst f178_96 ?_
      refine ax_icmp_ne f178_97 rfl ⟨by omega, by omega⟩ ⟨by omega, by omega⟩ (fun q97 => absurd q97 (by omega)) (fun q97 => ?_)
      refine ax_aload_n f178_100 rfl ?_
      refine ax_getf f178_101 o rfl ?_
      refine ax_sipush f178_104 ?_
      refine ax_iload_n f178_107 rfl ?_
      refine ax_iadd f178_108 ?_
      refine ax_ialdO f178_109 (by decide) a1 (by omega) (by omega) rfl ?_
      refine ax_goto f178_110 rfl ?_
      refine ax_isub f178_120 ?_
      refine ax_iload_n f178_121 rfl ?_
      refine ax_cvV (rest := []) f178_122 o rfl rfl rfl rfl rfl rfl rfl rfl (c_177 o a1 hw i hb1 hb3 hb2 (by omega) (F0 := F) a6 (fun _ _ _ => rfl) a7 a8 a9 hF1 (fun j j1 j2 => hF0 j j1 (by omega))) ?_
      rintro h8 ⟨o8, ⟨g68, a68, hg68⟩, ⟨⟨g78, a78⟩, ⟨g88, a88⟩, g98, a98⟩, f8⟩
      have a68 := a68.eq fun j j1 j2 => (hg68 j j1 j2).symm
      have o : Mo h8 _ _ _ _ _ _ _ _ := o8
      have a1 := a1.fr f8 (by omega)
      have a6 := a68
      have a7 := a78
      have a8 := a88
      have a9 := a98
      refine ax_iinc (ls' := [_, _, _, _, _]) f178_125 rfl (Nat.le_of_ble_eq_true rfl) rfl ?_
      refine ax_goto f178_128 rfl ?_
      have hsp := srb_sp (R := R) (w := w) (l := bok R (fro R k) (fro R (k + 1)) - R (193 + k)) (lk := lk) hb1 hb3 hb2 hF1
      refine lp_178b i hw n (k := k + 1) o a1 a6 a7 a8 a9 hsp.1 ?_ (by omega) (by omega) ?_
      · intro j j1 j2
        rw [hsp.2 j (by omega)]
        exact hF0 j (by omega) j2
      · intro h7 pa7 o7 a67 w7 f7 x3 x4
        rw [← sea_s1 (show ¬ R 269 = 0 by omega)] at o7 a67
        exact kk h7 pa7 o7 a67 w7 ((r1.mono (T := fun x => x = 120 ∨ x = 126 ∨ x = 127 ∨ x = 128 ∨ x = 129) fun x e => by omega).trans ((f8.mono fun x e => by omega).trans f7))
theorem c_178 {h : am_H} {R : Int → Int} {c th lk pa le sp fi se : Int} (o : Mo h c th lk pa le sp fi se) (a1 : oI h 121 270 R) {w : Int} (hw : w = 0 ∨ w = 1 ∨ w = 2) (i : inv R) {g6 : Int → Int} (a6 : oA 2 h 126 48 g6) (hW : Wp h) : am_X 7 178 0 (am_ent 178 [.ref 120, .int (iI w)]) [] h (fun r h' => rV r ∧ (∃ pa', Mo h' c th (sek R w).1 pa' le sp fi se) ∧ oA 2 h' 126 48 (sek R w).2 ∧ Wp h' ∧ fr (fun x => x = 120 ∨ x = 126 ∨ x = 127 ∨ x = 128 ∨ x = 129) h h') := by
  show am_X 7 178 0 [.ref 120, .int (iI w), am_u, am_u, am_u] [] h _
  have F : fr (fun x => x = 120 ∨ x = 126 ∨ x = 127 ∨ x = 128 ∨ x = 129) h h := fr_rf
  obtain ⟨⟨g7, a7⟩, ⟨g8, a8⟩, g9, a9⟩ := hW
  have hb := blk_1 i.ff
  refine ax_aload_n f178_0 rfl ?_
  refine ax_iconst f178_1 ?_
  refine ax_putfO f178_2 o rfl rfl rfl rfl (fun hp1 o1 r1 => ?_)
  have o : Mo hp1 _ _ _ _ _ _ _ _ := o1
  have a1 := a1.fr r1 (by omega)
  have a6 := a6.fr r1 (by omega)
  have a7 := a7.fr r1 (by omega)
  have a8 := a8.fr r1 (by omega)
  have a9 := a9.fr r1 (by omega)
  have F := F.trans (r1.mono fun x e => by omega)
  refine ax_iconst f178_5 ?_
  refine ax_istore_n (ls' := [_, _, _, _, _]) f178_6 (Nat.le_of_ble_eq_true rfl) rfl ?_
  refine lp_178a o 48 0 (by omega) (by omega) _ a6 (fun j j1 j2 => by omega) ?_
  intro h8 a68 f8
  have o : Mo h8 _ _ _ _ _ _ _ _ := f8.at (q := 120) (by omega) o
  have a1 := a1.fr f8 (by omega)
  have a6 := a68
  have a7 := a7.fr f8 (by omega)
  have a8 := a8.fr f8 (by omega)
  have a9 := a9.fr f8 (by omega)
  have F := F.trans (f8.mono fun x e => by omega)
  refine ax_iconst f178_26 ?_
  refine ax_istore_n (ls' := [_, _, _, _, _]) f178_27 (Nat.le_of_ble_eq_true rfl) rfl ?_
  refine lp_178b (d := 0) i hw (blk R).toNat (k := 0) o a1 a6 a7 a8 a9 (fun _ _ _ => Or.inl rfl) (fun _ _ _ => rfl) (by omega) (by omega) ?_
  intro h7 pa7 o7 a67 w7 f7 x3 x4
  refine ax_return f178_131 rfl ?_
  exact ⟨rfl, ⟨_, o7⟩, a67, w7, F.trans f7⟩
theorem c_209 {h : am_H} {R : Int → Int} {c th lk pa le sp fi se : Int} (o : Mo h c th lk pa le sp fi se) (a1 : oI h 121 270 R) {w q : Int} (hw : w = 0 ∨ w = 1 ∨ w = 2) (hq : q = 0 ∨ q = 1 ∨ q = 2 ∨ q = 3) (i : inv R) (hW : Wk h) : am_X 8 209 0 (am_ent 209 [.ref 120, .int (iI w), .int (iI q)]) [] h (fun r h' => rI r (isg R w q) ∧ (∃ lk' pa', Mo h' c th lk' pa' le sp fi se) ∧ Wk h' ∧ fr (fun x => x = 120 ∨ x = 126 ∨ x = 127 ∨ x = 128 ∨ x = 129) h h') := by
  show am_X 8 209 0 [.ref 120, .int (iI w), .int (iI q)] [] h _
  obtain ⟨⟨g6, a6⟩, hW⟩ := hW
  rcases hq with rfl | rfl | rfl | rfl
  · refine ax_aload_n f209_0 rfl ?_
    refine ax_iload_n f209_1 rfl ?_
    refine ax_cvV (rest := []) f209_2 o rfl rfl rfl rfl rfl rfl rfl rfl (c_178 o a1 hw i a6 hW) ?_
    rintro h8 ⟨⟨pa8, o8⟩, a68, w8, f8⟩
    have hF1 := (sek_sp i.ff i.b12 w).1
    have o := o8
    have a1 := a1.fr f8 (by omega)
    refine ax_iload_n f209_5 rfl ?_
    refine ax_if_ne f209_6 rfl ⟨by omega, by omega⟩ (fun q6 => absurd q6 (by omega)) (fun q6 => ?_)
    refine ax_aload_n f209_9 rfl ?_
    refine ax_getf f209_10 o rfl ?_
    refine ax_goto f209_13 rfl ?_
    refine ax_ireturn f209_44 rfl rfl ?_
    exact ⟨rI_of rfl, ⟨_, _, o⟩, ⟨⟨_, a68⟩, w8⟩, f8⟩
  · refine ax_aload_n f209_0 rfl ?_
    refine ax_iload_n f209_1 rfl ?_
    refine ax_cvV (rest := []) f209_2 o rfl rfl rfl rfl rfl rfl rfl rfl (c_178 o a1 hw i a6 hW) ?_
    rintro h8 ⟨⟨pa8, o8⟩, a68, w8, f8⟩
    have hF1 := (sek_sp i.ff i.b12 w).1
    have o := o8
    have a1 := a1.fr f8 (by omega)
    refine ax_iload_n f209_5 rfl ?_
    refine ax_if_ne f209_6 rfl ⟨by omega, by omega⟩ (fun q6 => ?_) (fun q6 => absurd q6 (by omega))
    refine ax_iload_n f209_16 rfl ?_
    refine ax_iconst f209_17 ?_
    refine ax_icmp_ne f209_18 rfl ⟨by omega, by omega⟩ ⟨by omega, by omega⟩ (fun q18 => absurd q18 (by omega)) (fun q18 => ?_)
    refine ax_aload_n f209_21 rfl ?_
    refine ax_cvI (rest := []) f209_22 o rfl rfl rfl rfl rfl rfl rfl rfl (c_179 o a68 hF1) ?_
    intro _ e_
    obtain rfl := e_.symm
    clear e_
    refine ax_goto f209_25 rfl ?_
    refine ax_ireturn f209_44 rfl rfl ?_
    exact ⟨rI_of rfl, ⟨_, _, o⟩, ⟨⟨_, a68⟩, w8⟩, f8⟩
  · refine ax_aload_n f209_0 rfl ?_
    refine ax_iload_n f209_1 rfl ?_
    refine ax_cvV (rest := []) f209_2 o rfl rfl rfl rfl rfl rfl rfl rfl (c_178 o a1 hw i a6 hW) ?_
    rintro h8 ⟨⟨pa8, o8⟩, a68, w8, f8⟩
    have hF1 := (sek_sp i.ff i.b12 w).1
    have o := o8
    have a1 := a1.fr f8 (by omega)
    refine ax_iload_n f209_5 rfl ?_
    refine ax_if_ne f209_6 rfl ⟨by omega, by omega⟩ (fun q6 => ?_) (fun q6 => absurd q6 (by omega))
    refine ax_iload_n f209_16 rfl ?_
    refine ax_iconst f209_17 ?_
    refine ax_icmp_ne f209_18 rfl ⟨by omega, by omega⟩ ⟨by omega, by omega⟩ (fun q18 => ?_) (fun q18 => absurd q18 (by omega))
    refine ax_iload_n f209_28 rfl ?_
    refine ax_iconst f209_29 ?_
    refine ax_icmp_ne f209_30 rfl ⟨by omega, by omega⟩ ⟨by omega, by omega⟩ (fun q30 => absurd q30 (by omega)) (fun q30 => ?_)
    refine ax_aload_n f209_33 rfl ?_
    refine ax_cvI (rest := []) f209_34 o rfl rfl rfl rfl rfl rfl rfl rfl (c_180 o a68 hF1 a1 (fun _ _ _ => rfl) i.1.2.1) ?_
    intro _ e_
    obtain rfl := e_.symm
    clear e_
    refine ax_goto f209_37 rfl ?_
    refine ax_ireturn f209_44 rfl rfl ?_
    exact ⟨rI_of rfl, ⟨_, _, o⟩, ⟨⟨_, a68⟩, w8⟩, f8⟩
  · refine ax_aload_n f209_0 rfl ?_
    refine ax_iload_n f209_1 rfl ?_
    refine ax_cvV (rest := []) f209_2 o rfl rfl rfl rfl rfl rfl rfl rfl (c_178 o a1 hw i a6 hW) ?_
    rintro h8 ⟨⟨pa8, o8⟩, a68, w8, f8⟩
    have hF1 := (sek_sp i.ff i.b12 w).1
    have o := o8
    have a1 := a1.fr f8 (by omega)
    refine ax_iload_n f209_5 rfl ?_
    refine ax_if_ne f209_6 rfl ⟨by omega, by omega⟩ (fun q6 => ?_) (fun q6 => absurd q6 (by omega))
    refine ax_iload_n f209_16 rfl ?_
    refine ax_iconst f209_17 ?_
    refine ax_icmp_ne f209_18 rfl ⟨by omega, by omega⟩ ⟨by omega, by omega⟩ (fun q18 => ?_) (fun q18 => absurd q18 (by omega))
    refine ax_iload_n f209_28 rfl ?_
    refine ax_iconst f209_29 ?_
    refine ax_icmp_ne f209_30 rfl ⟨by omega, by omega⟩ ⟨by omega, by omega⟩ (fun q30 => ?_) (fun q30 => absurd q30 (by omega))
    refine ax_aload_n f209_40 rfl ?_
    refine ax_cvI (rest := []) f209_41 o rfl rfl rfl rfl rfl rfl rfl rfl (c_181 o a68 hF1 a1 (fun _ _ _ => rfl) i.1.2.1) ?_
    intro _ e_
    obtain rfl := e_.symm
    clear e_
    refine ax_ireturn f209_44 rfl rfl ?_
    exact ⟨rI_of rfl, ⟨_, _, o⟩, ⟨⟨_, a68⟩, w8⟩, f8⟩
/-- what is taken and lost, ahead of row k -/
def sdk (B F : Int → Int) (k j : Int) : Int := if 218 ≤ j ∧ j < 218 + k then F (j - 218) else if 96 ≤ j ∧ j < 96 + k then min (B j + F (j - 96)) 99 else B j
theorem sdk_0 (B F : Int → Int) (j : Int) : sdk B F 0 j = B j := by unfold sdk; rw [if_neg (by omega), if_neg (by omega)]
theorem sdk_l {B F : Int → Int} {k j : Int} (h : 96 + k ≤ j ∧ j < 144) : sdk B F k j = B j := by unfold sdk; rw [if_neg (by omega), if_neg (by omega)]
theorem sdk_s (B F : Int → Int) {k v l : Int} (h1 : 0 ≤ k) (h2 : k < 48) (hv : v = F k) (hl : l = min (B (96 + k) + F k) 99) (j : Int) : uZ (uZ (sdk B F k) (218 + k) v) (96 + k) l j = sdk B F (k + 1) j := by
  unfold uZ sdk
  have t1 : ¬ j = 96 + k → (96 ≤ j ∧ j < 96 + (k + 1) ↔ 96 ≤ j ∧ j < 96 + k) := fun e => ⟨fun z => ⟨z.1, by omega⟩, fun z => ⟨z.1, by omega⟩⟩
  have t2 : ¬ j = 218 + k → (218 ≤ j ∧ j < 218 + (k + 1) ↔ 218 ≤ j ∧ j < 218 + k) := fun e => ⟨fun z => ⟨z.1, by omega⟩, fun z => ⟨z.1, by omega⟩⟩
  by_cases e1 : j = 96 + k
  · rw [if_pos e1, if_neg (show ¬ (218 ≤ j ∧ j < 218 + (k + 1)) by omega), if_pos (show 96 ≤ j ∧ j < 96 + (k + 1) by omega), hl, e1, show 96 + k - 96 = k by omega]
  · rw [if_neg e1]
    by_cases e2 : j = 218 + k
    · rw [if_pos e2, if_pos (show 218 ≤ j ∧ j < 218 + (k + 1) by omega), hv, e2, show 218 + k - 218 = k by omega]
    · rw [if_neg e2]
      simp only [t1 e1, t2 e2]
theorem lp_166 {d : Nat} {Q : am_R → am_H → Prop} {B F : Int → Int} {x1 : Int32} {c th lk pa le sp fi se : Int} (hB : ibt B 96 48 0 99) (hF : f01 F) : ∀ (n : Nat) {h : am_H} (o : Mo h c th lk pa le sp fi se) (a6 : oA 2 h 126 48 F) (r : Int), r + n = 48 → 0 ≤ r → oI h 121 270 (sdk B F r) → (∀ h' : am_H, oI h' 121 270 (sdk B F 48) → fr (fun x => x = 121) h h' → am_X d 166 152 [.ref 120, .int x1, .int (iI 48)] [] h' Q) → am_X d 166 76 [.ref 120, .int x1, .int (iI r)] [] h Q
  | 0, h, o, a6, r, h1, h2, a1, k => by
    have h1 : r = 48 := by omega
    subst h1
    refine ax_iload_n f166_76 rfl ?_
    refine ax_bipush f166_77 ?_
    refine ax_icmp_ge f166_79 rfl ⟨by omega, by omega⟩ ⟨by omega, by omega⟩ (fun q79 => ?_) (fun q79 => absurd q79 (by omega))
    exact k h a1 fr_rf
  | n + 1, h, o, a6, r, h1, h2, a1, k => by
    have hb := hB r h2 (by omega)
    have hf := hF r h2 (by omega)
    refine ax_iload_n f166_76 rfl ?_
    refine ax_bipush f166_77 ?_
    refine ax_icmp_ge f166_79 rfl ⟨by omega, by omega⟩ ⟨by omega, by omega⟩ (fun q79 => absurd q79 (by omega)) (fun q79 => ?_)
    refine ax_aload_n f166_82 rfl ?_
    refine ax_getf f166_83 o rfl ?_
    refine ax_sipush f166_86 ?_
    refine ax_iload_n f166_89 rfl ?_
    refine ax_iadd f166_90 ?_
    refine ax_aload_n f166_91 rfl ?_
    refine ax_getf f166_92 o rfl ?_
    refine ax_iload_n f166_95 rfl ?_
    refine ax_baldO f166_96 a6 (by omega) (by omega) rfl ?_
    refine ax_if_eq f166_97 rfl ⟨by omega, by omega⟩ (fun q97 => ?_) (fun q97 => ?_)
    · refine ax_iconst f166_104 ?_
      refine ax_iastO f166_105 a1 (by omega) (by omega) rfl (fun hp1 o1 r1 => ?_)
      have o : Mo hp1 _ _ _ _ _ _ _ _ := r1.at (q := 120) (by omega) o
      have a1 := o1
      have a6 := a6.fr r1 (by omega)
      have e96 : uZ (sdk B F r) (218 + r) 0 (96 + r) = B (96 + r) := by rw [uZ_n (by omega), sdk_l (by omega)]
      refine ax_aload_n f166_106 rfl ?_
      refine ax_getf f166_107 o rfl ?_
      refine ax_bipush f166_110 ?_
      refine ax_iload_n f166_112 rfl ?_
      refine ax_iadd f166_113 ?_
      refine ax_dup2 f166_114 rfl rfl ?_
      refine ax_ialdO f166_115 (by decide) a1 (by omega) (by omega) rfl ?_
      rw [e96]
      refine ax_aload_n f166_116 rfl ?_
      refine ax_getf f166_117 o rfl ?_
      refine ax_iload_n f166_120 rfl ?_
      refine ax_baldO f166_121 a6 (by omega) (by omega) rfl ?_
      refine ax_if_eq f166_122 rfl ⟨by omega, by omega⟩ (fun q122 => ?_) (fun q122 => absurd q122 (by omega))
      refine ax_iconst f166_143 ?_
      refine ax_iadd f166_144 ?_
      refine ax_iastO f166_145 a1 (by omega) (by omega) rfl (fun hp2 o2 r2 => ?_)
      have o : Mo hp2 _ _ _ _ _ _ _ _ := r2.at (q := 120) (by omega) o
      have a1 := o2
      have a6 := a6.fr r2 (by omega)
      refine ax_iinc (ls' := [_, _, _]) f166_146 rfl (Nat.le_of_ble_eq_true rfl) rfl ?_
      refine ax_goto f166_149 rfl ?_
      refine lp_166 hB hF n (a6 := a6) o (r + 1) (by omega) (by omega) (a1.eq fun j j1 j2 => (sdk_s B F h2 (by omega) (show (0 : Int) = F r by omega) (show B (96 + r) + 0 = _ by omega) j).symm) ?_
      intro h9 a9 f9
      exact k h9 a9 ((r1.trans r2).trans f9)
    · refine ax_iconst f166_100 ?_
      refine ax_goto f166_101 rfl ?_
      refine ax_iastO f166_105 a1 (by omega) (by omega) rfl (fun hp1 o1 r1 => ?_)
      have o : Mo hp1 _ _ _ _ _ _ _ _ := r1.at (q := 120) (by omega) o
      have a1 := o1
      have a6 := a6.fr r1 (by omega)
      have e96 : uZ (sdk B F r) (218 + r) 1 (96 + r) = B (96 + r) := by rw [uZ_n (by omega), sdk_l (by omega)]
      refine ax_aload_n f166_106 rfl ?_
      refine ax_getf f166_107 o rfl ?_
      refine ax_bipush f166_110 ?_
      refine ax_iload_n f166_112 rfl ?_
      refine ax_iadd f166_113 ?_
      refine ax_dup2 f166_114 rfl rfl ?_
      refine ax_ialdO f166_115 (by decide) a1 (by omega) (by omega) rfl ?_
      rw [e96]
      refine ax_aload_n f166_116 rfl ?_
      refine ax_getf f166_117 o rfl ?_
      refine ax_iload_n f166_120 rfl ?_
      refine ax_baldO f166_121 a6 (by omega) (by omega) rfl ?_
      refine ax_if_eq f166_122 rfl ⟨by omega, by omega⟩ (fun q122 => absurd q122 (by omega)) (fun q122 => ?_)
      refine ax_aload_n f166_125 rfl ?_
      refine ax_getf f166_126 o rfl ?_
      refine ax_bipush f166_129 ?_
      refine ax_iload_n f166_131 rfl ?_
      refine ax_iadd f166_132 ?_
      refine ax_ialdO f166_133 (by decide) a1 (by omega) (by omega) rfl ?_
      rw [e96]
      refine ax_bipush f166_134 ?_
      refine ax_icmp_ge f166_136 rfl ⟨by omega, by omega⟩ ⟨by omega, by omega⟩ (fun q136 => ?_) (fun q136 => ?_)
      · refine ax_iconst f166_143 ?_
        refine ax_iadd f166_144 ?_
        refine ax_iastO f166_145 a1 (by omega) (by omega) rfl (fun hp2 o2 r2 => ?_)
        have o : Mo hp2 _ _ _ _ _ _ _ _ := r2.at (q := 120) (by omega) o
        have a1 := o2
        have a6 := a6.fr r2 (by omega)
        refine ax_iinc (ls' := [_, _, _]) f166_146 rfl (Nat.le_of_ble_eq_true rfl) rfl ?_
        refine ax_goto f166_149 rfl ?_
        refine lp_166 hB hF n (a6 := a6) o (r + 1) (by omega) (by omega) (a1.eq fun j j1 j2 => (sdk_s B F h2 (by omega) (show (1 : Int) = F r by omega) (show B (96 + r) + 0 = _ by omega) j).symm) ?_
        intro h9 a9 f9
        exact k h9 a9 ((r1.trans r2).trans f9)
      · refine ax_iconst f166_139 ?_
        refine ax_goto f166_140 rfl ?_
        refine ax_iadd f166_144 ?_
        refine ax_iastO f166_145 a1 (by omega) (by omega) rfl (fun hp2 o2 r2 => ?_)
        have o : Mo hp2 _ _ _ _ _ _ _ _ := r2.at (q := 120) (by omega) o
        have a1 := o2
        have a6 := a6.fr r2 (by omega)
        refine ax_iinc (ls' := [_, _, _]) f166_146 rfl (Nat.le_of_ble_eq_true rfl) rfl ?_
        refine ax_goto f166_149 rfl ?_
        refine lp_166 hB hF n (a6 := a6) o (r + 1) (by omega) (by omega) (a1.eq fun j j1 j2 => (sdk_s B F h2 (by omega) (show (1 : Int) = F r by omega) (show B (96 + r) + 1 = _ by omega) j).symm) ?_
        intro h9 a9 f9
        exact k h9 a9 ((r1.trans r2).trans f9)
theorem c_166 {h : am_H} {R : Int → Int} {c th lk pa le sp fi se : Int} (o : Mo h c th lk pa le sp fi se) (a1 : oI h 121 270 R) (i : inv R) {z : Int} (hz : inI z) (hW : Wk h) : am_X 8 166 0 (am_ent 166 [.ref 120, .int (iI z)]) [] h (fun r h' => rI r (b2i ((0 ≤ z ∧ z < 3) ∧ (R 192 = 1 ∨ R 269 = 0))) ∧ (∃ lk' pa', Mo h' c th lk' pa' le sp fi se) ∧ oI h' 121 270 (aSk R z) ∧ Wk h' ∧ fr (fun x => x = 120 ∨ x = 121 ∨ x = 126 ∨ x = 127 ∨ x = 128 ∨ x = 129) h h') := by
  show am_X 8 166 0 [.ref 120, .int (iI z), am_u] [] h _
  have F : fr (fun x => x = 120 ∨ x = 121 ∨ x = 126 ∨ x = 127 ∨ x = 128 ∨ x = 129) h h := fr_rf
  obtain ⟨⟨g6, a6⟩, hW⟩ := hW
  by_cases c0 : 0 ≤ z ∧ z ≤ 2
  · by_cases c1 : R 192 = 1 ∨ R 269 = 0
    · refine ax_iload_n f166_0 rfl ?_
      refine ax_iconst f166_1 ?_
      refine ax_iconst f166_2 ?_
      refine ax_csI (rest := []) f166_3 (Or.inl rfl) rfl rfl rfl rfl rfl rfl (c_145 hz ⟨by decide, by decide⟩ ⟨by decide, by decide⟩) ?_
      intro _ e_
      obtain rfl := e_.symm
      clear e_
      refine ax_nmI (b2i_t c0) ?_
      refine ax_if_eq f166_6 rfl ⟨by omega, by omega⟩ (fun q6 => absurd q6 (by omega)) (fun q6 => ?_)
      refine ax_aload_n f166_9 rfl ?_
      refine ax_cvI (rest := []) f166_10 o rfl rfl rfl rfl rfl rfl rfl rfl (c_171 o a1 i.td i.tr) ?_
      intro _ e_
      obtain rfl := e_.symm
      clear e_
      refine ax_nmI (b2i_t c1) ?_
      refine ax_if_ne f166_13 rfl ⟨by omega, by omega⟩ (fun q13 => ?_) (fun q13 => absurd q13 (by omega))
      refine ax_aload_n f166_18 rfl ?_
      refine ax_iload_n f166_19 rfl ?_
      refine ax_cvV (rest := []) f166_20 o rfl rfl rfl rfl rfl rfl rfl rfl (c_178 o a1 (show z = 0 ∨ z = 1 ∨ z = 2 by omega) i a6 hW) ?_
      rintro h8 ⟨⟨pa8, o8⟩, a68, w8, f8⟩
      have hF1 := (sek_sp i.ff i.b12 z).1
      have o : Mo h8 _ _ _ _ _ _ _ _ := o8
      have a1 := a1.fr f8 (by omega)
      have a6 := a68
      have F := F.trans (f8.mono fun x e => by omega)
      refine ax_aload_n f166_23 rfl ?_
      refine ax_getf f166_24 o rfl ?_
      refine ax_sipush f166_27 ?_
      refine ax_dup2 f166_30 rfl rfl ?_
      refine ax_ialdO f166_31 (by decide) a1 (by omega) (by omega) rfl ?_
      refine ax_aload_n f166_32 rfl ?_
      refine ax_getf f166_33 o rfl ?_
      refine ax_iadd f166_36 ?_
      refine ax_iastO f166_37 a1 (by omega) (by omega) rfl (fun hp2 o2 r2 => ?_)
      have o : Mo hp2 _ _ _ _ _ _ _ _ := r2.at (q := 120) (by omega) o
      have a1 := o2
      have a6 := a6.fr r2 (by omega)
      have F := F.trans (r2.mono fun x e => by omega)
      refine ax_aload_n f166_38 rfl ?_
      refine ax_getf f166_39 o rfl ?_
      refine ax_sipush f166_42 ?_
      refine ax_aload_n f166_45 rfl ?_
      refine ax_cvI (rest := [_, _]) f166_46 o rfl rfl rfl rfl rfl rfl rfl rfl (c_179 o a6 hF1) ?_
      intro _ e_
      obtain rfl := e_.symm
      clear e_
      refine ax_iastO f166_49 a1 (by omega) (by omega) rfl (fun hp3 o3 r3 => ?_)
      have o : Mo hp3 _ _ _ _ _ _ _ _ := r3.at (q := 120) (by omega) o
      have a1 := o3
      have a6 := a6.fr r3 (by omega)
      have F := F.trans (r3.mono fun x e => by omega)
      refine ax_aload_n f166_50 rfl ?_
      refine ax_getf f166_51 o rfl ?_
      refine ax_sipush f166_54 ?_
      refine ax_aload_n f166_57 rfl ?_
      refine ax_cvI (rest := [_, _]) f166_58 o rfl rfl rfl rfl rfl rfl rfl rfl (c_180 (R := R) o a6 hF1 a1 (fun j j1 j2 => by rw [uZ_n (by omega), uZ_n (by omega)]) i.1.2.1) ?_
      intro _ e_
      obtain rfl := e_.symm
      clear e_
      refine ax_iastO f166_61 a1 (by omega) (by omega) rfl (fun hp4 o4 r4 => ?_)
      have o : Mo hp4 _ _ _ _ _ _ _ _ := r4.at (q := 120) (by omega) o
      have a1 := o4
      have a6 := a6.fr r4 (by omega)
      have F := F.trans (r4.mono fun x e => by omega)
      refine ax_aload_n f166_62 rfl ?_
      refine ax_getf f166_63 o rfl ?_
      refine ax_sipush f166_66 ?_
      refine ax_aload_n f166_69 rfl ?_
      refine ax_cvI (rest := [_, _]) f166_70 o rfl rfl rfl rfl rfl rfl rfl rfl (c_181 (R := R) o a6 hF1 a1 (fun j j1 j2 => by rw [uZ_n (by omega), uZ_n (by omega), uZ_n (by omega)]) i.1.2.1) ?_
      intro _ e_
      obtain rfl := e_.symm
      clear e_
      refine ax_iastO f166_73 a1 (by omega) (by omega) rfl (fun hp5 o5 r5 => ?_)
      have o : Mo hp5 _ _ _ _ _ _ _ _ := r5.at (q := 120) (by omega) o
      have a1 := o5
      have a6 := a6.fr r5 (by omega)
      have F := F.trans (r5.mono fun x e => by omega)
      refine ax_iconst f166_74 ?_
      refine ax_istore_n (ls' := [_, _, _]) f166_75 (Nat.le_of_ble_eq_true rfl) rfl ?_
      refine lp_166 (d := 8) (F := (sek R z).2) (fun j j1 j2 => by rw [uZ_n (by omega), uZ_n (by omega), uZ_n (by omega), uZ_n (by omega)]; exact i.lo j1 j2) hF1 48 o a6 0 (by omega) (by omega) (a1.eq fun j j1 j2 => sdk_0 _ _ j) ?_
      intro h7 a7 f7
      have o : Mo h7 _ _ _ _ _ _ _ _ := f7.at (q := 120) (by omega) o
      have a1 := a7
      have a6 := a6.fr f7 (by omega)
      have F := F.trans (f7.mono fun x e => by omega)
      have w8 := ((((w8.mv r2 (by omega) (by omega) (by omega)).mv r3 (by omega) (by omega) (by omega)).mv r4 (by omega) (by omega) (by omega)).mv r5 (by omega) (by omega) (by omega)).mv f7 (by omega) (by omega) (by omega)
      refine ax_iconst f166_152 ?_
      refine ax_ireturn f166_153 rfl rfl ?_
      refine ⟨rI_of (b2i_t (by omega)).symm, ⟨_, _, o⟩, ?_, ⟨⟨_, a6⟩, w8⟩, F⟩
      unfold aSk
      rw [if_pos (by omega)]
      refine a1.eqI fun j j1 j2 => ?_
      unfold skd nts sdk
      by_cases e : j = 217
      · subst e
        rw [if_pos rfl, iI_wr, if_neg (by omega), if_neg (by omega), uZ_n (by omega), uZ_n (by omega), uZ_n (by omega), uZ_s]
      rw [if_neg e]
      by_cases e : 218 ≤ j ∧ j < 266
      · rw [if_pos e, if_pos (show 218 ≤ j ∧ j < 218 + 48 by omega)]
      rw [if_neg e, if_neg (show ¬ (218 ≤ j ∧ j < 218 + 48) by omega)]
      by_cases e : j = 266
      · subst e
        rw [if_pos rfl, if_neg (show ¬ (96 ≤ (266 : Int) ∧ (266 : Int) < 96 + 48) by omega), uZ_n (by omega), uZ_n (by omega), uZ_s]
      rw [if_neg e]
      by_cases e : j = 267
      · subst e
        rw [if_pos rfl, if_neg (show ¬ (96 ≤ (267 : Int) ∧ (267 : Int) < 96 + 48) by omega), uZ_n (by omega), uZ_s]
      rw [if_neg e]
      by_cases e : j = 268
      · subst e
        rw [if_pos rfl, if_neg (show ¬ (96 ≤ (268 : Int) ∧ (268 : Int) < 96 + 48) by omega), uZ_s]
      rw [if_neg e]
      by_cases e : 96 ≤ j ∧ j < 144
      · rw [if_pos e, if_pos (show 96 ≤ j ∧ j < 96 + 48 by omega), uZ_n (by omega), uZ_n (by omega), uZ_n (by omega), uZ_n (by omega)]
      rw [if_neg e, if_neg (show ¬ (96 ≤ j ∧ j < 96 + 48) by omega), uZ_n (by omega), uZ_n (by omega), uZ_n (by omega), uZ_n (by omega)]
    · refine ax_iload_n f166_0 rfl ?_
      refine ax_iconst f166_1 ?_
      refine ax_iconst f166_2 ?_
      refine ax_csI (rest := []) f166_3 (Or.inl rfl) rfl rfl rfl rfl rfl rfl (c_145 hz ⟨by decide, by decide⟩ ⟨by decide, by decide⟩) ?_
      intro _ e_
      obtain rfl := e_.symm
      clear e_
      refine ax_nmI (b2i_t c0) ?_
      refine ax_if_eq f166_6 rfl ⟨by omega, by omega⟩ (fun q6 => absurd q6 (by omega)) (fun q6 => ?_)
      refine ax_aload_n f166_9 rfl ?_
      refine ax_cvI (rest := []) f166_10 o rfl rfl rfl rfl rfl rfl rfl rfl (c_171 o a1 i.td i.tr) ?_
      intro _ e_
      obtain rfl := e_.symm
      clear e_
      refine ax_nmI (b2i_f c1) ?_
      refine ax_if_ne f166_13 rfl ⟨by omega, by omega⟩ (fun q13 => absurd q13 (by omega)) (fun q13 => ?_)
      refine ax_iconst f166_16 ?_
      refine ax_ireturn f166_17 rfl rfl ?_
      exact ⟨rI_of (b2i_f (by omega)).symm, ⟨_, _, o⟩, by unfold aSk; rw [if_neg (by omega)]; exact a1, ⟨⟨_, a6⟩, hW⟩, F⟩
  · refine ax_iload_n f166_0 rfl ?_
    refine ax_iconst f166_1 ?_
    refine ax_iconst f166_2 ?_
    refine ax_csI (rest := []) f166_3 (Or.inl rfl) rfl rfl rfl rfl rfl rfl (c_145 hz ⟨by decide, by decide⟩ ⟨by decide, by decide⟩) ?_
    intro _ e_
    obtain rfl := e_.symm
    clear e_
    refine ax_nmI (b2i_f c0) ?_
    refine ax_if_eq f166_6 rfl ⟨by omega, by omega⟩ (fun q6 => ?_) (fun q6 => absurd q6 (by omega))
    refine ax_iconst f166_16 ?_
    refine ax_ireturn f166_17 rfl rfl ?_
    exact ⟨rI_of (b2i_f (by omega)).symm, ⟨_, _, o⟩, by unfold aSk; rw [if_neg (by omega)]; exact a1, ⟨⟨_, a6⟩, hW⟩, F⟩
end MSK
