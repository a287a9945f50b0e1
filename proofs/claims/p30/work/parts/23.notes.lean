/-! ===== the class's states of the meadow: searches noted, copies ===== -/
section CPY
theorem nb1 {z : Int} (h : z = 0 ∨ z = 1) : narrow .boolean (.int (iI z)) = .int (iI z) := by rcases h with rfl | rfl <;> rfl
theorem nb2 {z : Int} (h : z = 0 ∨ z = 1) : fits .boolean (.int (iI z)) = true := by rcases h with rfl | rfl <;> rfl
theorem ax_cpyO {d m pc : Nat} {ls st : List Value} {h : am_H} {Q : am_R → am_H → Prop} {i w q0 q1 n0 : Nat} {g0 g1 : Int → Int} {n : Int} (hf : am_tab m pc = some (.invokestatic i, 3, 0, 0, w, .int 7)) (hc : am_cs st ≤ 8) (a0 : oI h q0 n0 g0) (a1 : oI h q1 n0 g1) (e : n = n0) (hn : Nat.ble n0 60000 = true) (k : ∀ h' : am_H, oI h' q1 n0 g0 → fr (fun x => x = q1) h h' → am_X d m (pc + 3) ls st h' Q) : am_X d m pc ls (.int (iI n) :: .int (iI 0) :: .ref q1 :: .int (iI 0) :: .ref q0 :: st) h Q := by
  obtain ⟨f0, b0, c0⟩ := a0
  obtain ⟨f1, b1, c1⟩ := a1
  have hn := Nat.le_of_ble_eq_true hn
  refine ax_cpy hf hc b0 b1 (by omega) (by omega) (by omega) hn (k _ ⟨_, am_w_at b1, fun j hj => ?_⟩ fr_w)
  unfold va_cpy
  rw [if_pos (by omega), ← c0 j hj]
  congr 1; omega
theorem c_42 {h : am_H} {p q : Nat} {R0 R : Int → Int} (hP : Mead h p R0) (hM : Mead h q R) (hd : p + 4 < q ∨ q + 4 < p) (it : R 192 = 0 ∨ R 192 = 1) : am_X 0 42 0 (am_ent 42 [.ref p, .ref q]) [] h (fun r h' => rV r ∧ Mead h' p (R) ∧ fr (MS p) h h') := by
  show am_X 0 42 0 [.ref p, .ref q] [] h _
  obtain ⟨op, pw, pl, pi, ps⟩ := hP
  obtain ⟨oq, qw, ql, qi, qs⟩ := hM
  refine ax_aload_n f42_0 rfl ?_
  refine ax_getf f42_1 oq rfl ?_
  refine ax_iconst f42_4 ?_
  refine ax_aload_n f42_5 rfl ?_
  refine ax_getf f42_6 op rfl ?_
  refine ax_iconst f42_9 ?_
  refine ax_bipush f42_10 ?_
  refine ax_cpyO f42_12 (by decide) qw pw rfl rfl (fun h1 o1 r1 => ?_)
  have op := r1.at (q := p) (by omega) op
  have oq := r1.at (q := q) (by omega) oq
  have pw := o1
  have pl := pl.fr r1 (by omega)
  have pi := pi.fr r1 (by omega)
  have ps := ps.fr r1 (by omega)
  have qw := qw.fr r1 (by omega)
  have ql := ql.fr r1 (by omega)
  have qi := qi.fr r1 (by omega)
  have qs := qs.fr r1 (by omega)
  refine ax_aload_n f42_15 rfl ?_
  refine ax_getf f42_16 oq rfl ?_
  refine ax_iconst f42_19 ?_
  refine ax_aload_n f42_20 rfl ?_
  refine ax_getf f42_21 op rfl ?_
  refine ax_iconst f42_24 ?_
  refine ax_bipush f42_25 ?_
  refine ax_cpyO f42_27 (by decide) ql pl rfl rfl (fun h2 o2 r2 => ?_)
  have op := r2.at (q := p) (by omega) op
  have oq := r2.at (q := q) (by omega) oq
  have pw := pw.fr r2 (by omega)
  have pl := o2
  have pi := pi.fr r2 (by omega)
  have ps := ps.fr r2 (by omega)
  have qw := qw.fr r2 (by omega)
  have ql := ql.fr r2 (by omega)
  have qi := qi.fr r2 (by omega)
  have qs := qs.fr r2 (by omega)
  refine ax_aload_n f42_30 rfl ?_
  refine ax_getf f42_31 oq rfl ?_
  refine ax_iconst f42_34 ?_
  refine ax_aload_n f42_35 rfl ?_
  refine ax_getf f42_36 op rfl ?_
  refine ax_iconst f42_39 ?_
  refine ax_bipush f42_40 ?_
  refine ax_cpyO f42_42 (by decide) qi pi rfl rfl (fun h3 o3 r3 => ?_)
  have op := r3.at (q := p) (by omega) op
  have oq := r3.at (q := q) (by omega) oq
  have pw := pw.fr r3 (by omega)
  have pl := pl.fr r3 (by omega)
  have pi := o3
  have ps := ps.fr r3 (by omega)
  have qw := qw.fr r3 (by omega)
  have ql := ql.fr r3 (by omega)
  have qi := qi.fr r3 (by omega)
  have qs := qs.fr r3 (by omega)
  refine ax_aload_n f42_45 rfl ?_
  refine ax_getf f42_46 oq rfl ?_
  refine ax_iconst f42_49 ?_
  refine ax_aload_n f42_50 rfl ?_
  refine ax_getf f42_51 op rfl ?_
  refine ax_iconst f42_54 ?_
  refine ax_bipush f42_55 ?_
  refine ax_cpyO f42_57 (by decide) qs ps rfl rfl (fun h4 o4 r4 => ?_)
  have op := r4.at (q := p) (by omega) op
  have oq := r4.at (q := q) (by omega) oq
  have pw := pw.fr r4 (by omega)
  have pl := pl.fr r4 (by omega)
  have pi := pi.fr r4 (by omega)
  have ps := o4
  have qw := qw.fr r4 (by omega)
  have ql := ql.fr r4 (by omega)
  have qi := qi.fr r4 (by omega)
  have qs := qs.fr r4 (by omega)
  refine ax_aload_n f42_60 rfl ?_
  refine ax_aload_n f42_61 rfl ?_
  refine ax_getf f42_62 oq rfl ?_
  refine ax_putfO f42_65 op rfl rfl rfl rfl (fun h5 o5 r5 => ?_)
  have op := o5
  have oq := r5.at (q := q) (by omega) oq
  have pw := pw.fr r5 (by omega)
  have pl := pl.fr r5 (by omega)
  have pi := pi.fr r5 (by omega)
  have ps := ps.fr r5 (by omega)
  have qw := qw.fr r5 (by omega)
  have ql := ql.fr r5 (by omega)
  have qi := qi.fr r5 (by omega)
  have qs := qs.fr r5 (by omega)
  refine ax_aload_n f42_68 rfl ?_
  refine ax_aload_n f42_69 rfl ?_
  refine ax_getf f42_70 oq rfl ?_
  refine ax_putfO f42_73 op rfl rfl rfl rfl (fun h6 o6 r6 => ?_)
  have op := o6
  have oq := r6.at (q := q) (by omega) oq
  have pw := pw.fr r6 (by omega)
  have pl := pl.fr r6 (by omega)
  have pi := pi.fr r6 (by omega)
  have ps := ps.fr r6 (by omega)
  have qw := qw.fr r6 (by omega)
  have ql := ql.fr r6 (by omega)
  have qi := qi.fr r6 (by omega)
  have qs := qs.fr r6 (by omega)
  refine ax_aload_n f42_76 rfl ?_
  refine ax_aload_n f42_77 rfl ?_
  refine ax_getf f42_78 oq rfl ?_
  refine ax_putfO f42_81 op rfl rfl rfl rfl (fun h7 o7 r7 => ?_)
  have op := o7
  have oq := r7.at (q := q) (by omega) oq
  have pw := pw.fr r7 (by omega)
  have pl := pl.fr r7 (by omega)
  have pi := pi.fr r7 (by omega)
  have ps := ps.fr r7 (by omega)
  have qw := qw.fr r7 (by omega)
  have ql := ql.fr r7 (by omega)
  have qi := qi.fr r7 (by omega)
  have qs := qs.fr r7 (by omega)
  refine ax_aload_n f42_84 rfl ?_
  refine ax_aload_n f42_85 rfl ?_
  refine ax_getf f42_86 oq rfl ?_
  refine ax_putfO f42_89 op rfl (nb1 it) (nb2 it) rfl (fun h8 o8 r8 => ?_)
  have op := o8
  have oq := r8.at (q := q) (by omega) oq
  have pw := pw.fr r8 (by omega)
  have pl := pl.fr r8 (by omega)
  have pi := pi.fr r8 (by omega)
  have ps := ps.fr r8 (by omega)
  have qw := qw.fr r8 (by omega)
  have ql := ql.fr r8 (by omega)
  have qi := qi.fr r8 (by omega)
  have qs := qs.fr r8 (by omega)
  refine ax_aload_n f42_92 rfl ?_
  refine ax_aload_n f42_93 rfl ?_
  refine ax_getf f42_94 oq rfl ?_
  refine ax_putfO f42_97 op rfl rfl rfl rfl (fun h9 o9 r9 => ?_)
  have op := o9
  have oq := r9.at (q := q) (by omega) oq
  have pw := pw.fr r9 (by omega)
  have pl := pl.fr r9 (by omega)
  have pi := pi.fr r9 (by omega)
  have ps := ps.fr r9 (by omega)
  have qw := qw.fr r9 (by omega)
  have ql := ql.fr r9 (by omega)
  have qi := qi.fr r9 (by omega)
  have qs := qs.fr r9 (by omega)
  refine ax_aload_n f42_100 rfl ?_
  refine ax_aload_n f42_101 rfl ?_
  refine ax_getf f42_102 oq rfl ?_
  refine ax_putfO f42_105 op rfl rfl rfl rfl (fun h10 o10 r10 => ?_)
  have op := o10
  have oq := r10.at (q := q) (by omega) oq
  have pw := pw.fr r10 (by omega)
  have pl := pl.fr r10 (by omega)
  have pi := pi.fr r10 (by omega)
  have ps := ps.fr r10 (by omega)
  have qw := qw.fr r10 (by omega)
  have ql := ql.fr r10 (by omega)
  have qi := qi.fr r10 (by omega)
  have qs := qs.fr r10 (by omega)
  refine ax_aload_n f42_108 rfl ?_
  refine ax_aload_n f42_109 rfl ?_
  refine ax_getf f42_110 oq rfl ?_
  refine ax_putfO f42_113 op rfl rfl rfl rfl (fun h11 o11 r11 => ?_)
  have op := o11
  have oq := r11.at (q := q) (by omega) oq
  have pw := pw.fr r11 (by omega)
  have pl := pl.fr r11 (by omega)
  have pi := pi.fr r11 (by omega)
  have ps := ps.fr r11 (by omega)
  have qw := qw.fr r11 (by omega)
  have ql := ql.fr r11 (by omega)
  have qi := qi.fr r11 (by omega)
  have qs := qs.fr r11 (by omega)
  refine ax_aload_n f42_116 rfl ?_
  refine ax_aload_n f42_117 rfl ?_
  refine ax_getf f42_118 oq rfl ?_
  refine ax_putfO f42_121 op rfl rfl rfl rfl (fun h12 o12 r12 => ?_)
  have op := o12
  have oq := r12.at (q := q) (by omega) oq
  have pw := pw.fr r12 (by omega)
  have pl := pl.fr r12 (by omega)
  have pi := pi.fr r12 (by omega)
  have ps := ps.fr r12 (by omega)
  have qw := qw.fr r12 (by omega)
  have ql := ql.fr r12 (by omega)
  have qi := qi.fr r12 (by omega)
  have qs := qs.fr r12 (by omega)
  refine ax_return f42_124 rfl ?_
  refine ⟨rfl, ⟨Mo_eq op (Mfs_mk rfl rfl rfl rfl rfl rfl rfl rfl), pw, pl, pi, ps⟩, ?_⟩
  have F := r1.mono (T := MS p) (fun x e => by unfold MS; omega)
  have F := F.trans (r2.mono (T := MS p) (fun x e => by unfold MS; omega))
  have F := F.trans (r3.mono (T := MS p) (fun x e => by unfold MS; omega))
  have F := F.trans (r4.mono (T := MS p) (fun x e => by unfold MS; omega))
  have F := F.trans (r5.mono (T := MS p) (fun x e => by unfold MS; omega))
  have F := F.trans (r6.mono (T := MS p) (fun x e => by unfold MS; omega))
  have F := F.trans (r7.mono (T := MS p) (fun x e => by unfold MS; omega))
  have F := F.trans (r8.mono (T := MS p) (fun x e => by unfold MS; omega))
  have F := F.trans (r9.mono (T := MS p) (fun x e => by unfold MS; omega))
  have F := F.trans (r10.mono (T := MS p) (fun x e => by unfold MS; omega))
  have F := F.trans (r11.mono (T := MS p) (fun x e => by unfold MS; omega))
  have F := F.trans (r12.mono (T := MS p) (fun x e => by unfold MS; omega))
  exact F
theorem lp_64 {d p : Nat} {h : am_H} {Q : am_R → am_H → Prop} {R F : Int → Int} {x : Int32} {fs : List Value} (o : h.1[p]? = some (.inr (3, .ref (p + 1) :: .ref (p + 2) :: fs))) (hF : ∀ j, 0 ≤ j → j < 48 → F j = 0 ∨ F j = 1) (i : ibt R 96 48 0 99) : ∀ (n : Nat) (r : Int), r + n = 48 → 0 ≤ r → ∀ gl : Int → Int, oI h (p + 2) 48 gl → (∀ j, 0 ≤ j → j < r → gl j = min (R (96 + j) + F j) 99) → (∀ j, r ≤ j → j < 48 → gl j = R (96 + j)) →
    (∀ h', fr (fun q => q = p + 2) h h' → oI h' (p + 2) 48 (fun j => min (R (96 + j) + F j) 99) → am_X (d + 1) 64 91 [.ref p, .int x, .long (lB F), am_u, .int (iI 48)] [] h' Q) → am_X (d + 1) 64 52 [.ref p, .int x, .long (lB F), am_u, .int (iI r)] [] h Q
  | 0, r, h1, h2, gl, al, hl, hr, k => by
    have h1 : r = 48 := by omega
    subst h1
    refine ax_iload f64_52 rfl ?_
    refine ax_bipush f64_54 ?_
    refine ax_icmp_ge f64_56 rfl ⟨by omega, by omega⟩ ⟨by omega, by omega⟩ (fun q56 => ?_) (fun q56 => absurd q56 (by omega))
    exact k h fr_rf (al.eq fun j j1 j2 => (hl j j1 (by omega)).symm)
  | n + 1, r, h1, h2, gl, al, hl, hr, k => by
    have hb := i r h2 (by omega)
    have hf := hF r h2 (by omega)
    refine ax_iload f64_52 rfl ?_
    refine ax_bipush f64_54 ?_
    refine ax_icmp_ge f64_56 rfl ⟨by omega, by omega⟩ ⟨by omega, by omega⟩ (fun q56 => absurd q56 (by omega)) (fun q56 => ?_)
    refine ax_aload_n f64_59 rfl ?_
    refine ax_getf f64_60 o rfl ?_
    refine ax_iload f64_63 rfl ?_
    refine ax_aload_n f64_65 rfl ?_
    refine ax_getf f64_66 o rfl ?_
    refine ax_iload f64_69 rfl ?_
    refine ax_ialdO f64_71 (by decide) al (by omega) (by omega) rfl ?_
    rw [hr r (by omega) (by omega)]
    refine ax_lload_n f64_72 rfl ?_
    refine ax_iload f64_73 rfl ?_
    refine ax_csI f64_75 (Or.inr (Or.inl rfl)) rfl rfl rfl rfl rfl rfl (c_bit (by omega) (by omega) (hF _ (by omega) (by omega))) ?_
    rintro _ rfl
    refine ax_iadd f64_78 ?_
    refine ax_bipush f64_79 ?_
    refine ax_min f64_81 (Nat.le_of_ble_eq_true rfl) ⟨by omega, by omega⟩ ⟨by omega, by omega⟩ ?_
    refine ax_iastO f64_84 al (by omega) (by omega) rfl (fun h1 o1 r1 => ?_)
    refine ax_iinc f64_85 rfl (Nat.le_of_ble_eq_true rfl) rfl ?_
    refine ax_goto f64_88 rfl ?_
    refine lp_64 (r1.at (by omega) o) hF i n (r + 1) (by omega) (by omega) _ o1 ?_ ?_ ?_
    · intro j j1 j2
      unfold uZ
      split
      · rename_i e; rw [e]
      · exact hl j j1 (by omega)
    · intro j j1 j2
      rw [uZ_n (by omega)]
      exact hr j (by omega) j2
    · intro h9 f9 a9
      exact k h9 (r1.trans f9) a9
theorem c_64 {h : am_H} {p : Nat} {R : Int → Int} (hM : Mead h p R) {lk : Int} {F : Int → Int} (hF : ∀ j, 0 ≤ j → j < 48 → F j = 0 ∨ F j = 1) (i1 : i01 R 48 48) (i2 : ibt R 96 48 0 99) : am_X 1 64 0 (am_ent 64 [.ref p, .int (iI lk), .long (lB F)]) [] h (fun r h' => rV r ∧ Mead h' p (nts R lk F) ∧ fr (MS p) h h') := by
  show am_X 1 64 0 [.ref p, .int (iI lk), .long (lB F), am_u, am_u] [] h _
  obtain ⟨o, mw, ml, mi, ms⟩ := hM
  refine ax_aload_n f64_0 rfl ?_
  refine ax_dup f64_1 rfl ?_
  refine ax_getf f64_2 o rfl ?_
  refine ax_iload_n f64_5 rfl ?_
  refine ax_iadd f64_6 ?_
  refine ax_putfO f64_7 o rfl rfl rfl rfl (fun h1 o1 r1 => ?_)
  have o := o1
  have mw := mw.fr r1 (by omega)
  have ml := ml.fr r1 (by omega)
  have mi := mi.fr r1 (by omega)
  have ms := ms.fr r1 (by omega)
  refine ax_aload_n f64_10 rfl ?_
  refine ax_lload_n f64_11 rfl ?_
  refine ax_putfO f64_12 o rfl rfl rfl rfl (fun h2 o2 r2 => ?_)
  have o := o2
  have mw := mw.fr r2 (by omega)
  have ml := ml.fr r2 (by omega)
  have mi := mi.fr r2 (by omega)
  have ms := ms.fr r2 (by omega)
  refine ax_aload_n f64_15 rfl ?_
  refine ax_lload_n f64_16 rfl ?_
  refine ax_aload_n f64_17 rfl ?_
  refine ax_getf f64_18 o rfl ?_
  refine ax_ldc2_w f64_21 ?_
  refine ax_lxor f64_24 ?_
  refine ax_land f64_25 ?_
  rw [lB_not]
  refine ax_csI f64_26 (Or.inl rfl) rfl rfl rfl rfl rfl rfl (c_bit01 (fun j j1 j2 => by have := hF j j1 j2; split <;> omega)) ?_
  rintro _ rfl
  refine ax_putfO f64_29 o rfl rfl rfl rfl (fun h3 o3 r3 => ?_)
  have o := o3
  have mw := mw.fr r3 (by omega)
  have ml := ml.fr r3 (by omega)
  have mi := mi.fr r3 (by omega)
  have ms := ms.fr r3 (by omega)
  refine ax_aload_n f64_32 rfl ?_
  refine ax_aload_n f64_33 rfl ?_
  refine ax_getf f64_34 o rfl ?_
  refine ax_lload_n f64_37 rfl ?_
  refine ax_ldc2_w f64_38 ?_
  refine ax_lxor f64_41 ?_
  refine ax_land f64_42 ?_
  rw [lB_not]
  refine ax_csI f64_43 (Or.inl rfl) rfl rfl rfl rfl rfl rfl (c_bit01 (fun j j1 j2 => by have := i1 j j1 j2; split <;> omega)) ?_
  rintro _ rfl
  refine ax_putfO f64_46 o rfl rfl rfl rfl (fun h4 o4 r4 => ?_)
  have o := o4
  have mw := mw.fr r4 (by omega)
  have ml := ml.fr r4 (by omega)
  have mi := mi.fr r4 (by omega)
  have ms := ms.fr r4 (by omega)
  refine ax_iconst f64_49 ?_
  refine ax_istore f64_50 (Nat.le_of_ble_eq_true rfl) rfl ?_
  refine lp_64 (d := 0) (R := R) o hF i2 48 0 (by omega) (by omega) _ ml (fun j j1 j2 => by omega) (fun j j1 j2 => rfl) ?_
  intro h9 f9 a9
  refine ax_return f64_91 rfl ?_
  have e : ∀ j, 0 ≤ j → j < 96 ∨ (144 ≤ j ∧ j < 217) ∨ j = 269 → nts R lk F j = R j := fun j j0 hj => by
    unfold nts
    rw [if_neg (by omega), if_neg (by omega), if_neg (by omega), if_neg (by omega), if_neg (by omega), if_neg (by omega)]
  refine ⟨rfl, ⟨Mo_eq (f9.at (by omega) o) (Mfs_mk ?_ ?_ ?_ ?_ ?_ ?_ ?_ ?_), ?_, ?_, ?_, ?_⟩, ?_⟩
  · exact lB_congE fun j j1 j2 => (e _ (by omega) (by omega)).symm
  · exact lB_congE fun j j1 j2 => (e _ (by omega) (by omega)).symm
  · exact lB_congE fun j j1 j2 => by
      unfold nts
      rw [if_neg (by omega), if_pos (by omega)]
      congr 1; omega
  · rw [e 192 (by omega) (by omega)]
  · rw [e 269 (by omega) (by omega)]
  · unfold nts
    rw [if_pos rfl, iI_wr]
  · rfl
  · rfl
  · exact (mw.fr f9 (by omega)).eq fun j j1 j2 => e _ (by omega) (by omega)
  · exact a9.eq fun j j1 j2 => by
      unfold nts
      rw [if_neg (by omega), if_neg (by omega), if_neg (by omega), if_neg (by omega), if_neg (by omega), if_pos (by omega), show 96 + j - 96 = j by omega]
  · exact (mi.fr f9 (by omega)).eq fun j j1 j2 => e _ (by omega) (by omega)
  · exact (ms.fr f9 (by omega)).eq fun j j1 j2 => e _ (by omega) (by omega)
  · have F := r1.mono (T := MS p) (fun x e => by unfold MS; omega)
    have F := F.trans (r2.mono (T := MS p) (fun x e => by unfold MS; omega))
    have F := F.trans (r3.mono (T := MS p) (fun x e => by unfold MS; omega))
    have F := F.trans (r4.mono (T := MS p) (fun x e => by unfold MS; omega))
    exact F.trans (f9.mono (T := MS p) (fun x e => by unfold MS; omega))
end CPY
