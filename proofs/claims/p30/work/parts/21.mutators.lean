/-! ===== the class's states of the meadow: what changes them ===== -/
def MS (p : Nat) (q : Nat) : Prop := p ≤ q ∧ q ≤ p + 4
theorem Mfs_mk {p : Nat} {R : Int → Int} {a b c : Int64} {d e f g i : Int32} (ha : a = lB fun j => R (144 + j)) (hb : b = lB fun j => R (48 + j)) (hc : c = lB fun j => R (218 + j)) (hd : d = iI (R 192)) (he : e = iI (R 269)) (hf : f = iI (R 217)) (hg : g = iI (R 267)) (hi : i = iI (R 268)) : [.ref (p + 1), .ref (p + 2), .ref (p + 3), .ref (p + 4), .long a, .long b, .long c, .int d, .int e, .int f, .int g, .int i] = Mfs p R := by
  subst ha hb hc hd he hf hg hi; rfl
theorem Mo_eq {h : am_H} {p : Nat} {R : Int → Int} {fs : List Value} (o : h.1[p]? = some (.inr (3, fs))) (e : fs = Mfs p R) : h.1[p]? = some (.inr (3, Mfs p R)) := e ▸ o
theorem lB_uZ1 {g : Int → Int} {z : Int} : lB (fun j => if g j = 1 then 1 else if j = z then 1 else 0) = lB (uZ g z 1) := lB_cong fun j _ _ => by
  unfold uZ
  by_cases h : j = z <;> simp [h]
theorem lB_uZ0 {g : Int → Int} {z : Int} : lB (fun j => if (if j = z then 1 else 0 : Int) = 1 then 0 else g j) = lB (uZ g z 0) := lB_cong fun j _ _ => by
  unfold uZ
  by_cases h : j = z <;> simp [h]
section MUT
theorem c_58 {h : am_H} {p : Nat} {R : Int → Int} (hM : Mead h p R) {z v : Int} (h1 : 0 ≤ z) (h2 : z < 48) : am_X 1 58 0 (am_ent 58 [.ref p, .int (iI z), .int (iI v)]) [] h (fun r h' => rV r ∧ Mead h' p (uZ R z v) ∧ fr (MS p) h h') := by
  show am_X 1 58 0 [.ref p, .int (iI z), .int (iI v)] [] h _
  obtain ⟨o, mw, ml, mi, ms⟩ := hM
  refine ax_iload_n f58_0 rfl ?_
  refine ax_csI f58_1 (Or.inr (Or.inl rfl)) rfl rfl rfl rfl rfl rfl (c_134 ⟨by omega, by omega⟩) ?_
  rintro _ rfl
  rw [b2i_t ⟨h1, h2⟩]
  refine ax_if_eq f58_4 rfl ⟨by omega, by omega⟩ (fun q4 => absurd q4 (by omega)) (fun q4 => ?_)
  refine ax_aload_n f58_7 rfl ?_
  refine ax_getf f58_8 (by assumption) rfl ?_
  refine ax_iload_n f58_11 rfl ?_
  refine ax_iload_n f58_12 rfl ?_
  refine ax_iastO f58_13 mw (by omega) (by omega) rfl (fun h1 o1 r1 => ?_)
  refine ax_return f58_14 rfl ?_
  refine ⟨rfl, ⟨?_, o1, ?_, ?_, ?_⟩, r1.mono (fun q e => by unfold MS; omega)⟩
  · have e : Mfs p R = Mfs p (uZ R z v) := by
      symm
      exact Mfs_eq (fun j j1 j2 => by rw [uZ_n (by omega)]) (fun j j1 j2 => by rw [uZ_n (by omega)]) (fun j j1 j2 => by rw [uZ_n (by omega)]) (uZ_n (by omega)) (uZ_n (by omega)) (uZ_n (by omega)) (uZ_n (by omega)) (uZ_n (by omega))
    exact Mo_eq (r1.at (by omega) o) e
  · exact (ml.fr r1 (by omega)).eq fun j j1 j2 => uZ_n (by omega)
  · exact (mi.fr r1 (by omega)).eq fun j j1 j2 => uZ_n (by omega)
  · exact (ms.fr r1 (by omega)).eq fun j j1 j2 => uZ_n (by omega)
theorem c_59_0 {h : am_H} {p : Nat} {R : Int → Int} (hM : Mead h p R) {z : Int} (z1 : 0 ≤ z) (z2 : z < 48) : am_X 0 59 0 (am_ent 59 [.ref p, .int (iI z), .int (iI 0)]) [] h (fun r h' => rV r ∧ Mead h' p (uZ R (48 + z) 0) ∧ fr (MS p) h h') := by
  show am_X 0 59 0 [.ref p, .int (iI z), .int (iI 0)] [] h _
  obtain ⟨o, mw, ml, mi, ms⟩ := hM
  refine ax_aload_n f59_0 rfl ?_
  refine ax_iload_n f59_1 rfl ?_
  refine ax_if_eq f59_2 rfl ⟨by omega, by omega⟩ (fun q2 => ?_) (fun q2 => absurd q2 (by omega))
  refine ax_aload_n f59_16 rfl ?_
  refine ax_getf f59_17 (by assumption) rfl ?_
  refine ax_lconst f59_20 ?_
  refine ax_iload_n f59_21 rfl ?_
  refine ax_lshl f59_22 ?_
  refine ax_ldc2_w f59_23 ?_
  refine ax_lxor f59_26 ?_
  refine ax_land f59_27 ?_
  refine ax_putfO f59_28 (by assumption) rfl rfl rfl rfl (fun h1 o1 r1 => ?_)
  refine ax_return f59_31 rfl ?_
  refine ⟨rfl, ⟨?_, ?_, ?_, ?_, ?_⟩, r1.mono (fun q e => by unfold MS; omega)⟩
  · refine Mo_eq o1 (Mfs_mk ?_ ?_ ?_ ?_ ?_ ?_ ?_ ?_)
    · exact lB_congE fun j j1 j2 => (uZ_n (by omega)).symm
    · rw [show Int64.ofNat ((1 : Fin 2) : Nat) <<< ((iI z).toInt64 &&& 63) = _ from lB_one z1 z2, lB_not, lB_uZ0]
      exact lB_congE fun j j1 j2 => by unfold uZ; split <;> split <;> first | rfl | omega
    · exact lB_congE fun j j1 j2 => (uZ_n (by omega)).symm
    all_goals rw [uZ_n (by omega)]
  · exact (mw.fr r1 (by omega)).eq fun j j1 j2 => uZ_n (by omega)
  · exact (ml.fr r1 (by omega)).eq fun j j1 j2 => uZ_n (by omega)
  · exact (mi.fr r1 (by omega)).eq fun j j1 j2 => uZ_n (by omega)
  · exact (ms.fr r1 (by omega)).eq fun j j1 j2 => uZ_n (by omega)
theorem c_59_1 {h : am_H} {p : Nat} {R : Int → Int} (hM : Mead h p R) {z : Int} (z1 : 0 ≤ z) (z2 : z < 48) : am_X 0 59 0 (am_ent 59 [.ref p, .int (iI z), .int (iI 1)]) [] h (fun r h' => rV r ∧ Mead h' p (uZ R (48 + z) 1) ∧ fr (MS p) h h') := by
  show am_X 0 59 0 [.ref p, .int (iI z), .int (iI 1)] [] h _
  obtain ⟨o, mw, ml, mi, ms⟩ := hM
  refine ax_aload_n f59_0 rfl ?_
  refine ax_iload_n f59_1 rfl ?_
  refine ax_if_eq f59_2 rfl ⟨by omega, by omega⟩ (fun q2 => absurd q2 (by omega)) (fun q2 => ?_)
  refine ax_aload_n f59_5 rfl ?_
  refine ax_getf f59_6 (by assumption) rfl ?_
  refine ax_lconst f59_9 ?_
  refine ax_iload_n f59_10 rfl ?_
  refine ax_lshl f59_11 ?_
  refine ax_lor f59_12 ?_
  refine ax_goto f59_13 rfl ?_
  refine ax_putfO f59_28 (by assumption) rfl rfl rfl rfl (fun h1 o1 r1 => ?_)
  refine ax_return f59_31 rfl ?_
  refine ⟨rfl, ⟨?_, ?_, ?_, ?_, ?_⟩, r1.mono (fun q e => by unfold MS; omega)⟩
  · refine Mo_eq o1 (Mfs_mk ?_ ?_ ?_ ?_ ?_ ?_ ?_ ?_)
    · exact lB_congE fun j j1 j2 => (uZ_n (by omega)).symm
    · rw [show Int64.ofNat ((1 : Fin 2) : Nat) <<< ((iI z).toInt64 &&& 63) = _ from lB_one z1 z2, lB_or, lB_uZ1]
      exact lB_congE fun j j1 j2 => by unfold uZ; split <;> split <;> first | rfl | omega
    · exact lB_congE fun j j1 j2 => (uZ_n (by omega)).symm
    all_goals rw [uZ_n (by omega)]
  · exact (mw.fr r1 (by omega)).eq fun j j1 j2 => uZ_n (by omega)
  · exact (ml.fr r1 (by omega)).eq fun j j1 j2 => uZ_n (by omega)
  · exact (mi.fr r1 (by omega)).eq fun j j1 j2 => uZ_n (by omega)
  · exact (ms.fr r1 (by omega)).eq fun j j1 j2 => uZ_n (by omega)
theorem c_59 {h : am_H} {p : Nat} {R : Int → Int} (hM : Mead h p R) {z y : Int} (z1 : 0 ≤ z) (z2 : z < 48) (hy : y = 0 ∨ y = 1) : am_X 0 59 0 (am_ent 59 [.ref p, .int (iI z), .int (iI y)]) [] h (fun r h' => rV r ∧ Mead h' p (uZ R (48 + z) y) ∧ fr (MS p) h h') := by
  rcases hy with rfl | rfl
  · exact c_59_0 hM z1 z2
  · exact c_59_1 hM z1 z2
theorem c_60 {h : am_H} {p : Nat} {R : Int → Int} (hM : Mead h p R) (i : ffe R) (i2 : blk R ≤ 12) {z v : Int} (h1 : 0 ≤ z) (h2 : z < blk R) : am_X 3 60 0 (am_ent 60 [.ref p, .int (iI z), .int (iI v)]) [] h (fun r h' => rV r ∧ Mead h' p (uZ R (205 + z) v) ∧ fr (MS p) h h') := by
  show am_X 3 60 0 [.ref p, .int (iI z), .int (iI v)] [] h _
  refine ax_aload_n f60_0 rfl ?_
  refine ax_iload_n f60_1 rfl ?_
  refine ax_cvI f60_2 hM.1 rfl rfl rfl rfl rfl rfl rfl rfl (c_49 hM i i2 ⟨by omega, by omega⟩) ?_
  rintro _ rfl
  rw [b2i_t ⟨h1, h2⟩]
  refine ax_if_eq f60_5 rfl ⟨by omega, by omega⟩ (fun q5 => absurd q5 (by omega)) (fun q5 => ?_)
  refine ax_iload_n f60_8 rfl ?_
  refine ax_bipush f60_9 ?_
  refine ax_icmp_ge f60_11 rfl ⟨by omega, by omega⟩ ⟨by omega, by omega⟩ (fun q11 => absurd q11 (by omega)) (fun q11 => ?_)
  refine ax_aload_n f60_14 rfl ?_
  refine ax_getf f60_15 hM.1 rfl ?_
  refine ax_iload_n f60_18 rfl ?_
  refine ax_iload_n f60_19 rfl ?_
  refine ax_iastO f60_20 hM.2.2.2.1 (by omega) (by omega) rfl (fun h1 o1 r1 => ?_)
  refine ax_return f60_21 rfl ?_
  obtain ⟨o, mw, ml, mi, ms⟩ := hM
  refine ⟨rfl, ⟨?_, ?_, ?_, ?_, ?_⟩, r1.mono (fun q e => by unfold MS; omega)⟩
  · have e : Mfs p R = Mfs p (uZ R (205 + z) v) := by
      symm
      exact Mfs_eq (fun j j1 j2 => by rw [uZ_n (by omega)]) (fun j j1 j2 => by rw [uZ_n (by omega)]) (fun j j1 j2 => by rw [uZ_n (by omega)]) (uZ_n (by omega)) (uZ_n (by omega)) (uZ_n (by omega)) (uZ_n (by omega)) (uZ_n (by omega))
    exact Mo_eq (r1.at (by omega) o) e
  · exact (mw.fr r1 (by omega)).eq fun j j1 j2 => uZ_n (by omega)
  · exact (ml.fr r1 (by omega)).eq fun j j1 j2 => uZ_n (by omega)
  · exact o1.eq fun j j1 j2 => by unfold uZ; split <;> split <;> first | rfl | omega
  · exact (ms.fr r1 (by omega)).eq fun j j1 j2 => uZ_n (by omega)
theorem lp_62 {d p : Nat} {h : am_H} {Q : am_R → am_H → Prop} {x : Int64} {fs : List Value} (o : h.1[p]? = some (.inr (3, .ref (p + 1) :: .ref (p + 2) :: .ref (p + 3) :: .ref (p + 4) :: fs))) : ∀ (n : Nat) (r : Int), r + n = 12 → 0 ≤ r → ∀ gl gs : Int → Int, oI h (p + 3) 12 gl → oI h (p + 4) 12 gs → (∀ j, 0 ≤ j → j < r → gl j = 0) → (∀ j, 0 ≤ j → j < r → gs j = 0) →
    (∀ h', fr (fun q => q = p + 3 ∨ q = p + 4) h h' → oI h' (p + 3) 12 (fun _ => 0) → oI h' (p + 4) 12 (fun _ => 0) → am_X d 62 38 [.ref p, .long x, am_u, .int (iI 12)] [] h' Q) → am_X d 62 12 [.ref p, .long x, am_u, .int (iI r)] [] h Q
  | 0, r, h1, h2, gl, gs, al, as, hl, hs, k => by
    have h1 : r = 12 := by omega
    subst h1
    refine ax_iload_n f62_12 rfl ?_
    refine ax_bipush f62_13 ?_
    refine ax_icmp_ge f62_15 rfl ⟨by omega, by omega⟩ ⟨by omega, by omega⟩ (fun q15 => ?_) (fun q15 => absurd q15 (by omega))
    exact k h fr_rf (al.eq fun j j1 j2 => (hl j j1 (by omega)).symm) (as.eq fun j j1 j2 => (hs j j1 (by omega)).symm)
  | n + 1, r, h1, h2, gl, gs, al, as, hl, hs, k => by
    refine ax_iload_n f62_12 rfl ?_
    refine ax_bipush f62_13 ?_
    refine ax_icmp_ge f62_15 rfl ⟨by omega, by omega⟩ ⟨by omega, by omega⟩ (fun q15 => absurd q15 (by omega)) (fun q15 => ?_)
    refine ax_aload_n f62_18 rfl ?_
    refine ax_getf f62_19 o rfl ?_
    refine ax_iload_n f62_22 rfl ?_
    refine ax_iconst f62_23 ?_
    refine ax_iastO f62_24 al (by omega) (by omega) rfl (fun h1 o1 r1 => ?_)
    have oo := r1.at (q := p) (by omega) o
    have as1 := as.fr r1 (by omega)
    refine ax_aload_n f62_25 rfl ?_
    refine ax_getf f62_26 oo rfl ?_
    refine ax_iload_n f62_29 rfl ?_
    refine ax_iconst f62_30 ?_
    refine ax_iastO f62_31 as1 (by omega) (by omega) rfl (fun h2 o2 r2 => ?_)
    refine ax_iinc f62_32 rfl (Nat.le_of_ble_eq_true rfl) rfl ?_
    refine ax_goto f62_35 rfl ?_
    refine lp_62 (r2.at (by omega) oo) n (r + 1) (by omega) (by omega) _ _ (o1.fr r2 (by omega)) o2 ?_ ?_ ?_
    · intro j j1 j2
      unfold uZ
      split
      · rfl
      · exact hl j j1 (by omega)
    · intro j j1 j2
      unfold uZ
      split
      · rfl
      · exact hs j j1 (by omega)
    · intro h9 f9 a9 b9
      exact k h9 (((r1.mono (fun q e => by omega)).trans (r2.mono (fun q e => by omega))).trans f9) a9 b9
theorem c_62 {h : am_H} {p : Nat} {R : Int → Int} (hM : Mead h p R) {F : Int → Int} : am_X 0 62 0 (am_ent 62 [.ref p, .long (lB F)]) [] h (fun r h' => rV r ∧ Mead h' p (rfe R F) ∧ fr (MS p) h h') := by
  show am_X 0 62 0 [.ref p, .long (lB F), am_u, am_u] [] h _
  obtain ⟨o, mw, ml, mi, ms⟩ := hM
  refine ax_aload_n f62_0 rfl ?_
  refine ax_lload_n f62_1 rfl ?_
  refine ax_putfO f62_2 o rfl rfl rfl rfl (fun h1 o1 r1 => ?_)
  refine ax_aload_n f62_5 rfl ?_
  refine ax_iconst f62_6 ?_
  refine ax_putfO f62_7 o1 rfl rfl rfl rfl (fun h2 o2 r2 => ?_)
  refine ax_iconst f62_10 ?_
  refine ax_istore_n f62_11 (Nat.le_of_ble_eq_true rfl) rfl ?_
  refine lp_62 o2 12 0 (by omega) (by omega) _ _ ((mi.fr r1 (by omega)).fr r2 (by omega)) ((ms.fr r1 (by omega)).fr r2 (by omega)) (fun j j1 j2 => by omega) (fun j j1 j2 => by omega) ?_
  intro h9 f9 a9 b9
  refine ax_return f62_38 rfl ?_
  refine ⟨rfl, ⟨?_, ?_, ?_, ?_, ?_⟩, ((r1.trans r2).mono (fun q e => by unfold MS; omega)).trans (f9.mono (fun q e => by unfold MS; omega))⟩
  · refine Mo_eq (f9.at (by omega) o2) (Mfs_mk ?_ ?_ ?_ ?_ ?_ ?_ ?_ ?_)
    · exact lB_congE fun j j1 j2 => by unfold rfe; rw [if_pos (by omega)]; congr 1; omega
    · exact lB_congE fun j j1 j2 => by unfold rfe frg; rw [if_neg (by omega), if_neg (by omega)]
    · exact lB_congE fun j j1 j2 => by unfold rfe frg; rw [if_neg (by omega), if_neg (by omega)]
    all_goals rfl
  · exact (((mw.fr r1 (by omega)).fr r2 (by omega)).fr f9 (by omega)).eq fun j j1 j2 => by unfold rfe frg; rw [if_neg (by omega), if_neg (by omega)]
  · exact (((ml.fr r1 (by omega)).fr r2 (by omega)).fr f9 (by omega)).eq fun j j1 j2 => by unfold rfe frg; rw [if_neg (by omega), if_neg (by omega)]
  · exact a9.eq fun j j1 j2 => by unfold rfe frg; rw [if_neg (by omega), if_pos (by omega)]
  · exact b9.eq fun j j1 j2 => by unfold rfe frg; rw [if_neg (by omega), if_pos (by omega)]
theorem c_61_0 {h : am_H} {p : Nat} {R : Int → Int} (hM : Mead h p R) (i : ffe R) {z : Int} (z1 : 0 ≤ z) (z2 : z < 48) : am_X 1 61 0 (am_ent 61 [.ref p, .int (iI z), .int (iI 0)]) [] h (fun r h' => rV r ∧ Mead h' p (sfe R z 0) ∧ fr (MS p) h h') := by
  show am_X 1 61 0 [.ref p, .int (iI z), .int (iI 0), am_u, am_u] [] h _
  refine ax_iload_n f61_0 rfl ?_
  refine ax_if_eq f61_1 rfl ⟨by omega, by omega⟩ (fun q1 => ?_) (fun q1 => absurd q1 (by omega))
  refine ax_aload_n f61_15 rfl ?_
  refine ax_getf f61_16 hM.1 rfl ?_
  refine ax_lconst f61_19 ?_
  refine ax_iload_n f61_20 rfl ?_
  refine ax_lshl f61_21 ?_
  refine ax_ldc2_w f61_22 ?_
  refine ax_lxor f61_25 ?_
  refine ax_land f61_26 ?_
  rw [show Int64.ofNat ((1 : Fin 2) : Nat) <<< ((iI z).toInt64 &&& 63) = _ from lB_one z1 z2, lB_not, lB_uZ0]
  refine ax_lstore_n f61_27 (Nat.le_of_ble_eq_true rfl) rfl ?_
  refine ax_lload_n f61_28 rfl ?_
  refine ax_aload_n f61_29 rfl ?_
  refine ax_getf f61_30 hM.1 rfl ?_
  refine ax_lcmpz f61_33 ?_
  refine ax_if_eq f61_34 rfl (lcz_in _ _) (fun q34 => ?_) (fun q34 => ?_)
  · have e := lcz_0.mp q34
    have e2 : R (144 + z) = 0 := by
      have := lB_inj e z z1 z2
      rw [uZ_s] at this
      have := i.1 z z1 z2
      omega
    refine ax_return f61_42 rfl ?_
    refine ⟨rfl, ?_, fr_rf⟩
    unfold sfe
    rw [if_pos e2]
    exact hM
  · have e2 : ¬ R (144 + z) = 0 := by
      intro e
      refine q34 (lcz_0.mpr (lB_congE fun j j1 j2 => ?_))
      unfold uZ
      split
      · rename_i ej; rw [ej, e]
      · rfl
    refine ax_aload_n f61_37 rfl ?_
    refine ax_lload_n f61_38 rfl ?_
    refine ax_cvV f61_39 hM.1 rfl rfl rfl rfl rfl rfl rfl rfl (c_62 hM) ?_
    rintro hq ⟨hm9, f9⟩
    refine ax_return f61_42 rfl ?_
    refine ⟨rfl, hm9.eq fun j j1 j2 j3 => ?_, f9⟩
    unfold sfe
    rw [if_neg e2]
    unfold rfe frg uZ
    repeat' split
    all_goals first | rfl | omega | (congr 1; omega)
theorem c_61_1 {h : am_H} {p : Nat} {R : Int → Int} (hM : Mead h p R) (i : ffe R) {z : Int} (z1 : 0 ≤ z) (z2 : z < 48) : am_X 1 61 0 (am_ent 61 [.ref p, .int (iI z), .int (iI 1)]) [] h (fun r h' => rV r ∧ Mead h' p (sfe R z 1) ∧ fr (MS p) h h') := by
  show am_X 1 61 0 [.ref p, .int (iI z), .int (iI 1), am_u, am_u] [] h _
  refine ax_iload_n f61_0 rfl ?_
  refine ax_if_eq f61_1 rfl ⟨by omega, by omega⟩ (fun q1 => absurd q1 (by omega)) (fun q1 => ?_)
  refine ax_aload_n f61_4 rfl ?_
  refine ax_getf f61_5 hM.1 rfl ?_
  refine ax_lconst f61_8 ?_
  refine ax_iload_n f61_9 rfl ?_
  refine ax_lshl f61_10 ?_
  refine ax_lor f61_11 ?_
  refine ax_goto f61_12 rfl ?_
  rw [show Int64.ofNat ((1 : Fin 2) : Nat) <<< ((iI z).toInt64 &&& 63) = _ from lB_one z1 z2, lB_or, lB_uZ1]
  refine ax_lstore_n f61_27 (Nat.le_of_ble_eq_true rfl) rfl ?_
  refine ax_lload_n f61_28 rfl ?_
  refine ax_aload_n f61_29 rfl ?_
  refine ax_getf f61_30 hM.1 rfl ?_
  refine ax_lcmpz f61_33 ?_
  refine ax_if_eq f61_34 rfl (lcz_in _ _) (fun q34 => ?_) (fun q34 => ?_)
  · have e := lcz_0.mp q34
    have e2 : R (144 + z) = 1 := by
      have := lB_inj e z z1 z2
      rw [uZ_s] at this
      have := i.1 z z1 z2
      omega
    refine ax_return f61_42 rfl ?_
    refine ⟨rfl, ?_, fr_rf⟩
    unfold sfe
    rw [if_pos e2]
    exact hM
  · have e2 : ¬ R (144 + z) = 1 := by
      intro e
      refine q34 (lcz_0.mpr (lB_congE fun j j1 j2 => ?_))
      unfold uZ
      split
      · rename_i ej; rw [ej, e]
      · rfl
    refine ax_aload_n f61_37 rfl ?_
    refine ax_lload_n f61_38 rfl ?_
    refine ax_cvV f61_39 hM.1 rfl rfl rfl rfl rfl rfl rfl rfl (c_62 hM) ?_
    rintro hq ⟨hm9, f9⟩
    refine ax_return f61_42 rfl ?_
    refine ⟨rfl, hm9.eq fun j j1 j2 j3 => ?_, f9⟩
    unfold sfe
    rw [if_neg e2]
    unfold rfe frg uZ
    repeat' split
    all_goals first | rfl | omega | (congr 1; omega)
theorem c_61 {h : am_H} {p : Nat} {R : Int → Int} (hM : Mead h p R) (i : ffe R) {z y : Int} (z1 : 0 ≤ z) (z2 : z < 48) (hy : y = 0 ∨ y = 1) : am_X 1 61 0 (am_ent 61 [.ref p, .int (iI z), .int (iI y)]) [] h (fun r h' => rV r ∧ Mead h' p (sfe R z y) ∧ fr (MS p) h h') := by
  rcases hy with rfl | rfl
  · exact c_61_0 hM i z1 z2
  · exact c_61_1 hM i z1 z2
theorem tls_fe (R : Int → Int) (n : Int) (hn : n ≤ 12) (j : Int) (h1 : 144 ≤ j) (h2 : j < 192) : tls R n j = R j := by
  unfold tls
  rw [if_neg (by omega), if_neg (by omega)]
theorem tls_lo (R : Int → Int) (n : Int) (hn : n ≤ 12) (j : Int) (h2 : j < 192) : tls R n j = R j := by
  unfold tls
  rw [if_neg (by omega), if_neg (by omega)]
theorem lp_63 {d p : Nat} {Q : am_R → am_H → Prop} {R : Int → Int} (i : ffe R) (h01R : i01 R 48 48) (hw : blk R ≤ 12) : ∀ (n : Nat) {h : am_H} (r : Int), r + n = blk R → 0 ≤ r → Mead h p (tls R r) →
    (∀ h', Mead h' p (tls R (blk R)) → fr (MS p) h h' → am_X (d + 2) 63 58 [.ref p, .int (iI (blk R)), .int (iI (blk R))] [] h' Q) → am_X (d + 2) 63 12 [.ref p, .int (iI (blk R)), .int (iI r)] [] h Q
  | 0, h, r, h1, h2, hM, k => by
    have h1 : r = blk R := by omega
    subst h1
    generalize blk R = b at *
    refine ax_iload_n f63_12 rfl ?_
    refine ax_iload_n f63_13 rfl ?_
    refine ax_icmp_ge f63_14 rfl ⟨by omega, by omega⟩ ⟨by omega, by omega⟩ (fun q14 => ?_) (fun q14 => absurd q14 (by omega))
    exact k h hM fr_rf
  | n + 1, h, r, h1, h2, hM, k => by
    have hff : ffe (tls R r) := ⟨fun j j1 j2 => by rw [tls_fe R r (by omega) _ (by omega) (by omega)]; exact i.1 j j1 j2, by rw [tls_fe R r (by omega) _ (by omega) (by omega)]; exact i.2⟩
    have h01 : i01 (tls R r) 48 48 := fun j j1 j2 => by rw [tls_lo R r (by omega) _ (by omega)]; exact h01R j j1 j2
    have hb1 := (fro_sp i r).1
    have hb2 := (fro_sp i (r + 1)).2.1
    have hb3 := (fro_lt i h2 (by omega)).2.2
    have ha1 : 0 ≤ fro (tls R r) r := by rw [fro_cong (tls_fe R r (by omega))]; exact hb1
    have ha2 : fro (tls R r) r ≤ fro (tls R r) (r + 1) := by rw [fro_cong (tls_fe R r (by omega)), fro_cong (tls_fe R r (by omega))]; omega
    have ha3 : fro (tls R r) (r + 1) ≤ 48 := by rw [fro_cong (tls_fe R r (by omega))]; exact hb2
    refine ax_iload_n f63_12 rfl ?_
    refine ax_iload_n f63_13 rfl ?_
    refine ax_icmp_ge f63_14 rfl ⟨by omega, by omega⟩ ⟨by omega, by omega⟩ (fun q14 => absurd q14 (by omega)) (fun q14 => ?_)
    refine ax_iload_n f63_17 rfl ?_
    refine ax_bipush f63_18 ?_
    refine ax_icmp_ge f63_20 rfl ⟨by omega, by omega⟩ ⟨by omega, by omega⟩ (fun q20 => absurd q20 (by omega)) (fun q20 => ?_)
    refine ax_aload_n f63_23 rfl ?_
    refine ax_getf f63_24 hM.1 rfl ?_
    refine ax_iload_n f63_27 rfl ?_
    refine ax_aload_n f63_28 rfl ?_
    refine ax_aload_n f63_29 rfl ?_
    refine ax_iload_n f63_30 rfl ?_
    refine ax_cvI f63_31 hM.1 rfl rfl rfl rfl rfl rfl rfl rfl (c_50 hM hff (by omega) (by omega)) ?_
    rintro _ rfl
    refine ax_aload_n f63_34 rfl ?_
    refine ax_iload_n f63_35 rfl ?_
    refine ax_iconst f63_36 ?_
    refine ax_iadd f63_37 ?_
    refine ax_cvI f63_38 hM.1 rfl rfl rfl rfl rfl rfl rfl rfl (c_50 hM hff (by omega) (by omega)) ?_
    rintro _ rfl
    refine ax_cvI f63_41 hM.1 rfl rfl rfl rfl rfl rfl rfl rfl (c_53 hM h01 ha1 ha2 ha3) ?_
    rintro _ rfl
    refine ax_aload_n f63_44 rfl ?_
    refine ax_getf f63_45 hM.1 rfl ?_
    refine ax_iload_n f63_48 rfl ?_
    refine ax_ialdO f63_49 (by decide) hM.2.2.2.1 (by omega) (by omega) rfl ?_
    refine ax_iadd f63_50 ?_
    refine ax_iastO f63_51 hM.2.2.2.2 (by omega) (by omega) rfl (fun h1 o1 r1 => ?_)
    refine ax_iinc f63_52 rfl (Nat.le_of_ble_eq_true rfl) rfl ?_
    refine ax_goto f63_55 rfl ?_
    have hM2 : Mead h1 p (tls R (r + 1)) := by
      obtain ⟨o, mw, ml, mi, ms⟩ := hM
      have e : ∀ j, j ≠ 193 + r → tls R (r + 1) j = tls R r j := by
        intro j hj
        unfold tls
        split
        · rfl
        · split <;> split <;> first | rfl | omega
      refine ⟨?_, ?_, ?_, ?_, ?_⟩
      · refine Mo_eq (r1.at (by omega) o) (Mfs_eq (fun j j1 j2 => by rw [e _ (by omega)]) (fun j j1 j2 => by rw [e _ (by omega)]) (fun j j1 j2 => by rw [e _ (by omega)]) (e _ (by omega)) (e _ (by omega)) (e _ (by omega)) (e _ (by omega)) (e _ (by omega))).symm
      · exact (mw.fr r1 (by omega)).eq fun j j1 j2 => e _ (by omega)
      · exact (ml.fr r1 (by omega)).eq fun j j1 j2 => e _ (by omega)
      · exact (mi.fr r1 (by omega)).eq fun j j1 j2 => e _ (by omega)
      · refine o1.eq fun j j1 j2 => ?_
        unfold uZ
        split
        · rename_i ej
          subst ej
          have e3 : tls R (j + 1) (193 + j) = fld R (fro R j) (fro R (j + 1)) + R (205 + j) := by
            unfold tls
            rw [if_neg (by omega), if_pos (by omega), show 193 + j - 193 = j by omega]
          have e4 : tls R j (205 + j) = R (205 + j) := by
            unfold tls
            rw [if_neg (by omega), if_neg (by omega)]
          rw [e3, e4, fro_cong (tls_fe R j (by omega)), fro_cong (tls_fe R j (by omega)), fld_cong (R := R) (fun x x1 x2 => tls_lo R j (by omega) x (by omega)) hb1 hb2]
        · exact e _ (by omega)
    refine lp_63 i h01R hw n (r + 1) (by omega) (by omega) hM2 ?_
    intro h9 m9 f9
    exact k h9 m9 ((r1.mono (fun q e => by unfold MS; omega)).trans f9)
theorem c_63 {h : am_H} {p : Nat} {R : Int → Int} (hM : Mead h p R) (i : ffe R) (h01R : i01 R 48 48) (hw : blk R ≤ 12) : am_X 2 63 0 (am_ent 63 [.ref p]) [] h (fun r h' => rV r ∧ Mead h' p (tel R) ∧ fr (MS p) h h') := by
  show am_X 2 63 0 [.ref p, am_u, am_u] [] h _
  obtain ⟨o, mw, ml, mi, ms⟩ := hM
  refine ax_aload_n f63_0 rfl ?_
  refine ax_iconst f63_1 ?_
  refine ax_putfO f63_2 o rfl rfl rfl rfl (fun h1 o1 r1 => ?_)
  have hM1 : Mead h1 p (tls R 0) := by
    refine ⟨Mo_eq o1 (Mfs_mk ?_ ?_ ?_ ?_ ?_ ?_ ?_ ?_), ?_, ?_, ?_, ?_⟩
    · exact lB_congE fun j j1 j2 => by rw [tls_0, uZ_n (by omega)]
    · exact lB_congE fun j j1 j2 => by rw [tls_0, uZ_n (by omega)]
    · exact lB_congE fun j j1 j2 => by rw [tls_0, uZ_n (by omega)]
    · rfl
    · rw [tls_0, uZ_n (by omega)]
    · rw [tls_0, uZ_n (by omega)]
    · rw [tls_0, uZ_n (by omega)]
    · rw [tls_0, uZ_n (by omega)]
    · exact (mw.fr r1 (by omega)).eq fun j j1 j2 => by rw [tls_0, uZ_n (by omega)]
    · exact (ml.fr r1 (by omega)).eq fun j j1 j2 => by rw [tls_0, uZ_n (by omega)]
    · exact (mi.fr r1 (by omega)).eq fun j j1 j2 => by rw [tls_0, uZ_n (by omega)]
    · exact (ms.fr r1 (by omega)).eq fun j j1 j2 => by rw [tls_0, uZ_n (by omega)]
  have hff : ffe (tls R 0) := ⟨fun j j1 j2 => by rw [tls_fe R 0 (by omega) _ (by omega) (by omega)]; exact i.1 j j1 j2, by rw [tls_fe R 0 (by omega) _ (by omega) (by omega)]; exact i.2⟩
  refine ax_aload_n f63_5 rfl ?_
  refine ax_cvI f63_6 hM1.1 rfl rfl rfl rfl rfl rfl rfl rfl (c_48 hM1 hff) ?_
  rintro _ rfl
  rw [blk_cong (tls_fe R 0 (by omega))]
  refine ax_istore_n f63_9 (Nat.le_of_ble_eq_true rfl) rfl ?_
  refine ax_iconst f63_10 ?_
  refine ax_istore_n f63_11 (Nat.le_of_ble_eq_true rfl) rfl ?_
  have hb := blk_1 i
  refine lp_63 (d := 0) i h01R hw (blk R).toNat 0 (by omega) (by omega) hM1 ?_
  intro h9 m9 f9
  refine ax_return f63_58 rfl ?_
  exact ⟨rfl, m9, (r1.mono (fun q e => by unfold MS; omega)).trans f9⟩
end MUT
