/-! ===== the whole of the reference: what would be, scripts, slots ===== -/
section MPV
theorem lp_208 {d : Nat} {Q : am_R → am_H → Prop} {R : Int → Int} {c th lk pa le sp fi se : Int} {g : Int → Int} (hc : 0 ≤ c ∧ c ≤ 13) : ∀ {h : am_H} (o : Mo h c th lk pa le sp fi se) (a2 : oI h 122 3780 g) (hs : ∀ j, 0 ≤ j → j < 270 → g (270 * c + j) = R j) (n : Nat) (r : Int), r + n = 270 → 0 ≤ r → ∀ gr : Int → Int, oI h 121 270 gr → (∀ j, 0 ≤ j → j < r → gr j = R j) → (∀ h' : am_H, oI h' 121 270 R → fr (fun x => x = 121) h h' → am_X d 208 64 [.ref 120, .int (iI 270)] [] h' Q) → am_X d 208 30 [.ref 120, .int (iI r)] [] h Q
  | h, o, a2, hs, 0, r, h1, h2, gr, a1, hg, k => by
    have h1 : r = 270 := by omega
    subst h1
    refine ax_iload_n f208_30 rfl ?_
    refine ax_sipush f208_31 ?_
    refine ax_icmp_ge f208_34 rfl ⟨by omega, by omega⟩ ⟨by omega, by omega⟩ (fun q34 => ?_) (fun q34 => absurd q34 (by omega))
    exact k h (a1.eq fun j j1 j2 => (hg j j1 (by omega)).symm) fr_rf
  | h, o, a2, hs, n + 1, r, h1, h2, gr, a1, hg, k => by
    refine ax_iload_n f208_30 rfl ?_
    refine ax_sipush f208_31 ?_
    refine ax_icmp_ge f208_34 rfl ⟨by omega, by omega⟩ ⟨by omega, by omega⟩ (fun q34 => absurd q34 (by omega)) (fun q34 => ?_)
    refine ax_aload_n f208_37 rfl ?_
    refine ax_getf f208_38 o rfl ?_
    refine ax_iload_n f208_41 rfl ?_
    refine ax_aload_n f208_42 rfl ?_
    refine ax_getf f208_43 o rfl ?_
    refine ax_sipush f208_46 ?_
    refine ax_aload_n f208_49 rfl ?_
    refine ax_getf f208_50 o rfl ?_
    refine ax_imul f208_53 ?_
    refine ax_iload_n f208_54 rfl ?_
    refine ax_iadd f208_55 ?_
    refine ax_ialdO f208_56 (by decide) a2 (by omega) (by omega) rfl ?_
    rw [hs r h2 (by omega)]
    refine ax_iastO f208_57 a1 (by omega) (by omega) rfl (fun hp1 o1 r1 => ?_)
    have o : Mo hp1 _ _ _ _ _ _ _ _ := r1.at (q := 120) (by omega) o
    have a1 := o1
    have a2 := a2.fr r1 (by omega)
    refine ax_iinc (ls' := [_, _]) f208_58 rfl (Nat.le_of_ble_eq_true rfl) rfl ?_
    refine ax_goto f208_61 rfl ?_
    refine lp_208 hc o a2 hs n (r + 1) (by omega) (by omega) _ a1 ?_ ?_
    · intro j j1 j2
      unfold uZ
      split
      · rename_i e; rw [e]
      · exact hg j j1 (by omega)
    · intro h9 a9 f9
      exact k h9 a9 (r1.trans f9)
theorem lp_230 {d : Nat} {Q : am_R → am_H → Prop} {R : Int → Int} {c th lk pa le sp fi se : Int} {g : Int → Int} {z : Int} (hz : 0 ≤ z ∧ z ≤ 1) : ∀ {h : am_H} (o : Mo h c th lk pa le sp fi se) (a3 : oI h 123 540 g) (hs : ∀ j, 0 ≤ j → j < 270 → g (270 * z + j) = R j) (n : Nat) (r : Int), r + n = 270 → 0 ≤ r → ∀ gr : Int → Int, oI h 121 270 gr → (∀ j, 0 ≤ j → j < r → gr j = R j) → (∀ h' : am_H, oI h' 121 270 R → fr (fun x => x = 121) h h' → am_X d 230 68 [.ref 120, .int (iI z), .int (iI 270)] [] h' Q) → am_X d 230 37 [.ref 120, .int (iI z), .int (iI r)] [] h Q
  | h, o, a3, hs, 0, r, h1, h2, gr, a1, hg, k => by
    have h1 : r = 270 := by omega
    subst h1
    refine ax_iload_n f230_37 rfl ?_
    refine ax_sipush f230_38 ?_
    refine ax_icmp_ge f230_41 rfl ⟨by omega, by omega⟩ ⟨by omega, by omega⟩ (fun q41 => ?_) (fun q41 => absurd q41 (by omega))
    exact k h (a1.eq fun j j1 j2 => (hg j j1 (by omega)).symm) fr_rf
  | h, o, a3, hs, n + 1, r, h1, h2, gr, a1, hg, k => by
    refine ax_iload_n f230_37 rfl ?_
    refine ax_sipush f230_38 ?_
    refine ax_icmp_ge f230_41 rfl ⟨by omega, by omega⟩ ⟨by omega, by omega⟩ (fun q41 => absurd q41 (by omega)) (fun q41 => ?_)
    refine ax_aload_n f230_44 rfl ?_
    refine ax_getf f230_45 o rfl ?_
    refine ax_iload_n f230_48 rfl ?_
    refine ax_aload_n f230_49 rfl ?_
    refine ax_getf f230_50 o rfl ?_
    refine ax_sipush f230_53 ?_
    refine ax_iload_n f230_56 rfl ?_
    refine ax_imul f230_57 ?_
    refine ax_iload_n f230_58 rfl ?_
    refine ax_iadd f230_59 ?_
    refine ax_ialdO f230_60 (by decide) a3 (by omega) (by omega) rfl ?_
    rw [hs r h2 (by omega)]
    refine ax_iastO f230_61 a1 (by omega) (by omega) rfl (fun hp1 o1 r1 => ?_)
    have o : Mo hp1 _ _ _ _ _ _ _ _ := r1.at (q := 120) (by omega) o
    have a1 := o1
    have a3 := a3.fr r1 (by omega)
    refine ax_iinc (ls' := [_, _, _]) f230_62 rfl (Nat.le_of_ble_eq_true rfl) rfl ?_
    refine ax_goto f230_65 rfl ?_
    refine lp_230 hz o a3 hs n (r + 1) (by omega) (by omega) _ a1 ?_ ?_
    · intro j j1 j2
      unfold uZ
      split
      · rename_i e; rw [e]
      · exact hg j j1 (by omega)
    · intro h9 a9 f9
      exact k h9 a9 (r1.trans f9)
theorem m_208_1 {h : am_H} {R : Int → Int} {S : Int → Int → Int} {c : Int} {G : Nat → Int → Int} {b : Int → Int} {T : Int → Int} {L th : Int} (a : Mdl h (R, S, c, G, b, T, L) th) (k : okS (R, S, c, G, b, T, L)) (h0 : c = 0) : am_X 2 208 0 (am_ent 208 [.ref 120]) [] h (Mot h (0) 1 (R, S, c, G, b, T, L)) := by
  show am_X 2 208 0 [.ref 120, am_u] [] h _
  obtain ⟨⟨lk, pa, sp, fi, se, o⟩, a1, ⟨g2, a2, e2⟩, ⟨g3, a3, e3⟩, a4, ⟨g5, a5⟩, hW, aT, ⟨gC, aC⟩, gB, aB⟩ := a
  have o : Mo h c th lk pa L sp fi se := o
  have a1 : oI h 121 270 R := a1
  have e2 : ∀ k j, 0 ≤ k → k < c → 0 ≤ j → j < 270 → g2 (270 * k + j) = S k j := e2
  have e3 : ∀ (q : Nat) j, q < 2 → b q = 1 → 0 ≤ j → j < 270 → g3 (270 * q + j) = G q j := e3
  have a4 : oA 2 h 124 2 b := a4
  have aT : oI h 130 120 T := aT
  have i : inv R := k.1
  have iS : ∀ k, 0 ≤ k → k < c → inv (S k) := k.2.1
  have hc : 0 ≤ c ∧ c ≤ 14 := k.2.2.1
  have iG : ∀ q : Nat, q < 2 → b q = 1 → inv (G q) := k.2.2.2.1
  have hb : ∀ j, 0 ≤ j → j < 2 → b j = 0 ∨ b j = 1 := k.2.2.2.2.1
  have hL : 0 ≤ L ∧ L ≤ 120 := k.2.2.2.2.2.1
  have hT : ∀ j, 0 ≤ j → j < L → 0 ≤ T j ∧ T j ≤ 255 := k.2.2.2.2.2.2
  clear k
  have F : fr (fun x => 120 ≤ x ∧ x ≤ 132) h h := fr_rf
  refine ax_aload_n f208_0 rfl ?_
  refine ax_iconst f208_1 ?_
  refine ax_putfO f208_2 o rfl rfl rfl rfl (fun hp1 o1 r1 => ?_)
  have o : Mo hp1 _ _ _ _ _ _ _ _ := o1
  have a1 := a1.fr r1 (by omega)
  have a2 := a2.fr r1 (by omega)
  have a3 := a3.fr r1 (by omega)
  have a4 := a4.fr r1 (by omega)
  have a5 := a5.fr r1 (by omega)
  have hW := hW.mv r1 (by omega) (by omega) (by omega) (by omega)
  have aT := aT.fr r1 (by omega)
  have aC := aC.fr r1 (by omega)
  have aB := aB.fr r1 (by omega)
  have F := F.trans (r1.mono fun x e => by omega)
  refine ax_aload_n f208_5 rfl ?_
  refine ax_getf f208_6 o rfl ?_
  refine ax_if_ne f208_9 rfl ⟨by omega, by omega⟩ (fun q9 => absurd q9 (by omega)) (fun q9 => ?_)
  refine ax_aload_n f208_12 rfl ?_
  refine ax_iconst f208_13 ?_
  refine ax_cvI (rest := []) f208_14 o rfl rfl rfl rfl rfl rfl rfl rfl (c_144 o) ?_
  rintro h8 ⟨o8, f8⟩
  have o : Mo h8 _ _ _ _ _ _ _ _ := o8
  have a1 := a1.fr f8 (by omega)
  have a2 := a2.fr f8 (by omega)
  have a3 := a3.fr f8 (by omega)
  have a4 := a4.fr f8 (by omega)
  have a5 := a5.fr f8 (by omega)
  have hW := hW.mv f8 (by omega) (by omega) (by omega) (by omega)
  have aT := aT.fr f8 (by omega)
  have aC := aC.fr f8 (by omega)
  have aB := aB.fr f8 (by omega)
  have F := F.trans (f8.mono fun x e => by omega)
  refine ax_ireturn f208_17 rfl rfl ?_
  exact ⟨rI_of rfl, ⟨⟨_, _, _, _, _, o⟩, a1, ⟨_, a2, e2⟩, ⟨_, a3, e3⟩, a4, ⟨_, a5⟩, hW, aT, ⟨_, aC⟩, ⟨_, aB⟩⟩, F⟩
theorem m_208 {h : am_H} {R : Int → Int} {S : Int → Int → Int} {c : Int} {G : Nat → Int → Int} {b : Int → Int} {T : Int → Int} {L th : Int} (a : Mdl h (R, S, c, G, b, T, L) th) (k : okS (R, S, c, G, b, T, L)) (h0 : 0 < c) : am_X 2 208 0 (am_ent 208 [.ref 120]) [] h (Mot h (c - 1) 0 (S (c - 1), S, c - 1, G, b, T, L)) := by
  show am_X 2 208 0 [.ref 120, am_u] [] h _
  obtain ⟨⟨lk, pa, sp, fi, se, o⟩, a1, ⟨g2, a2, e2⟩, ⟨g3, a3, e3⟩, a4, ⟨g5, a5⟩, hW, aT, ⟨gC, aC⟩, gB, aB⟩ := a
  have o : Mo h c th lk pa L sp fi se := o
  have a1 : oI h 121 270 R := a1
  have e2 : ∀ k j, 0 ≤ k → k < c → 0 ≤ j → j < 270 → g2 (270 * k + j) = S k j := e2
  have e3 : ∀ (q : Nat) j, q < 2 → b q = 1 → 0 ≤ j → j < 270 → g3 (270 * q + j) = G q j := e3
  have a4 : oA 2 h 124 2 b := a4
  have aT : oI h 130 120 T := aT
  have i : inv R := k.1
  have iS : ∀ k, 0 ≤ k → k < c → inv (S k) := k.2.1
  have hc : 0 ≤ c ∧ c ≤ 14 := k.2.2.1
  have iG : ∀ q : Nat, q < 2 → b q = 1 → inv (G q) := k.2.2.2.1
  have hb : ∀ j, 0 ≤ j → j < 2 → b j = 0 ∨ b j = 1 := k.2.2.2.2.1
  have hL : 0 ≤ L ∧ L ≤ 120 := k.2.2.2.2.2.1
  have hT : ∀ j, 0 ≤ j → j < L → 0 ≤ T j ∧ T j ≤ 255 := k.2.2.2.2.2.2
  clear k
  have F : fr (fun x => 120 ≤ x ∧ x ≤ 132) h h := fr_rf
  refine ax_aload_n f208_0 rfl ?_
  refine ax_iconst f208_1 ?_
  refine ax_putfO f208_2 o rfl rfl rfl rfl (fun hp1 o1 r1 => ?_)
  have o : Mo hp1 _ _ _ _ _ _ _ _ := o1
  have a1 := a1.fr r1 (by omega)
  have a2 := a2.fr r1 (by omega)
  have a3 := a3.fr r1 (by omega)
  have a4 := a4.fr r1 (by omega)
  have a5 := a5.fr r1 (by omega)
  have hW := hW.mv r1 (by omega) (by omega) (by omega) (by omega)
  have aT := aT.fr r1 (by omega)
  have aC := aC.fr r1 (by omega)
  have aB := aB.fr r1 (by omega)
  have F := F.trans (r1.mono fun x e => by omega)
  refine ax_aload_n f208_5 rfl ?_
  refine ax_getf f208_6 o rfl ?_
  refine ax_if_ne f208_9 rfl ⟨by omega, by omega⟩ (fun q9 => ?_) (fun q9 => absurd q9 (by omega))
  refine ax_aload_n f208_18 rfl ?_
  refine ax_dup f208_19 rfl ?_
  refine ax_getf f208_20 o rfl ?_
  refine ax_iconst f208_23 ?_
  refine ax_isub f208_24 ?_
  refine ax_putfO f208_25 o rfl rfl rfl rfl (fun hp2 o2 r2 => ?_)
  have o : Mo hp2 _ _ _ _ _ _ _ _ := o2
  have a1 := a1.fr r2 (by omega)
  have a2 := a2.fr r2 (by omega)
  have a3 := a3.fr r2 (by omega)
  have a4 := a4.fr r2 (by omega)
  have a5 := a5.fr r2 (by omega)
  have hW := hW.mv r2 (by omega) (by omega) (by omega) (by omega)
  have aT := aT.fr r2 (by omega)
  have aC := aC.fr r2 (by omega)
  have aB := aB.fr r2 (by omega)
  have F := F.trans (r2.mono fun x e => by omega)
  refine ax_iconst f208_28 ?_
  refine ax_istore_n (ls' := [_, _]) f208_29 (Nat.le_of_ble_eq_true rfl) rfl ?_
  refine lp_208 (d := 2) (R := S (c - 1)) (by omega) o a2 (fun j j1 j2 => e2 (c - 1) j (by omega) (by omega) j1 j2) 270 0 (by omega) (by omega) _ a1 (fun j j1 j2 => by omega) ?_
  intro h9 a9 f9
  have o : Mo h9 _ _ _ _ _ _ _ _ := f9.at (q := 120) (by omega) o
  have a1 := a9
  have a2 := a2.fr f9 (by omega)
  have a3 := a3.fr f9 (by omega)
  have a4 := a4.fr f9 (by omega)
  have a5 := a5.fr f9 (by omega)
  have hW := hW.mv f9 (by omega) (by omega) (by omega) (by omega)
  have aT := aT.fr f9 (by omega)
  have aC := aC.fr f9 (by omega)
  have aB := aB.fr f9 (by omega)
  have F := F.trans (f9.mono fun x e => by omega)
  have e2 : ∀ k j, 0 ≤ k → k < c - 1 → 0 ≤ j → j < 270 → g2 (270 * k + j) = S k j := fun k j k1 k2 j1 j2 => e2 k j k1 (by omega) j1 j2
  refine ax_aload_n f208_64 rfl ?_
  refine ax_getf f208_65 o rfl ?_
  refine ax_ireturn f208_68 rfl rfl ?_
  exact ⟨rI_of rfl, ⟨⟨_, _, _, _, _, o⟩, a1, ⟨_, a2, e2⟩, ⟨_, a3, e3⟩, a4, ⟨_, a5⟩, hW, aT, ⟨_, aC⟩, ⟨_, aB⟩⟩, F⟩
theorem m_210_1 {h : am_H} {R : Int → Int} {S : Int → Int → Int} {c : Int} {G : Nat → Int → Int} {b : Int → Int} {T : Int → Int} {L th : Int} (a : Mdl h (R, S, c, G, b, T, L) th) (k : okS (R, S, c, G, b, T, L)) {w0 q0 : Int} (hw : inI w0) (hq : inI q0) (h0 : ¬ ((0 ≤ w0 ∧ w0 < 3) ∧ (0 ≤ q0 ∧ q0 ≤ 3))) : am_X 9 210 0 (am_ent 210 [.ref 120, .int (iI w0), .int (iI q0)]) [] h (Mot h (0) 1 (R, S, c, G, b, T, L)) := by
  show am_X 9 210 0 [.ref 120, .int (iI w0), .int (iI q0)] [] h _
  obtain ⟨⟨lk, pa, sp, fi, se, o⟩, a1, ⟨g2, a2, e2⟩, ⟨g3, a3, e3⟩, a4, ⟨g5, a5⟩, hW, aT, ⟨gC, aC⟩, gB, aB⟩ := a
  have o : Mo h c th lk pa L sp fi se := o
  have a1 : oI h 121 270 R := a1
  have e2 : ∀ k j, 0 ≤ k → k < c → 0 ≤ j → j < 270 → g2 (270 * k + j) = S k j := e2
  have e3 : ∀ (q : Nat) j, q < 2 → b q = 1 → 0 ≤ j → j < 270 → g3 (270 * q + j) = G q j := e3
  have a4 : oA 2 h 124 2 b := a4
  have aT : oI h 130 120 T := aT
  have i : inv R := k.1
  have iS : ∀ k, 0 ≤ k → k < c → inv (S k) := k.2.1
  have hc : 0 ≤ c ∧ c ≤ 14 := k.2.2.1
  have iG : ∀ q : Nat, q < 2 → b q = 1 → inv (G q) := k.2.2.2.1
  have hb : ∀ j, 0 ≤ j → j < 2 → b j = 0 ∨ b j = 1 := k.2.2.2.2.1
  have hL : 0 ≤ L ∧ L ≤ 120 := k.2.2.2.2.2.1
  have hT : ∀ j, 0 ≤ j → j < L → 0 ≤ T j ∧ T j ≤ 255 := k.2.2.2.2.2.2
  clear k
  have F : fr (fun x => 120 ≤ x ∧ x ≤ 132) h h := fr_rf
  by_cases c0 : 0 ≤ w0 ∧ w0 ≤ 2
  · have c1 : ¬ (0 ≤ q0 ∧ q0 ≤ 3) := by omega
    refine ax_aload_n f210_0 rfl ?_
    refine ax_iconst f210_1 ?_
    refine ax_putfO f210_2 o rfl rfl rfl rfl (fun hp1 o1 r1 => ?_)
    have o : Mo hp1 _ _ _ _ _ _ _ _ := o1
    have a1 := a1.fr r1 (by omega)
    have a2 := a2.fr r1 (by omega)
    have a3 := a3.fr r1 (by omega)
    have a4 := a4.fr r1 (by omega)
    have a5 := a5.fr r1 (by omega)
    have hW := hW.mv r1 (by omega) (by omega) (by omega) (by omega)
    have aT := aT.fr r1 (by omega)
    have aC := aC.fr r1 (by omega)
    have aB := aB.fr r1 (by omega)
    have F := F.trans (r1.mono fun x e => by omega)
    refine ax_iload_n f210_5 rfl ?_
    refine ax_iconst f210_6 ?_
    refine ax_iconst f210_7 ?_
    refine ax_csI (rest := []) f210_8 (Or.inl rfl) rfl rfl rfl rfl rfl rfl (c_145 hw ⟨by decide, by decide⟩ ⟨by decide, by decide⟩) ?_
    intro _ e_
    obtain rfl := e_.symm
    clear e_
    refine ax_nmI (b2i_t c0) ?_
    refine ax_if_eq f210_11 rfl ⟨by omega, by omega⟩ (fun q11 => absurd q11 (by omega)) (fun q11 => ?_)
    refine ax_iload_n f210_14 rfl ?_
    refine ax_iconst f210_15 ?_
    refine ax_iconst f210_16 ?_
    refine ax_csI (rest := []) f210_17 (Or.inl rfl) rfl rfl rfl rfl rfl rfl (c_145 hq ⟨by decide, by decide⟩ ⟨by decide, by decide⟩) ?_
    intro _ e_
    obtain rfl := e_.symm
    clear e_
    refine ax_nmI (b2i_f c1) ?_
    refine ax_if_ne f210_20 rfl ⟨by omega, by omega⟩ (fun q20 => absurd q20 (by omega)) (fun q20 => ?_)
    refine ax_aload_n f210_23 rfl ?_
    refine ax_iconst f210_24 ?_
    refine ax_cvI (rest := []) f210_25 o rfl rfl rfl rfl rfl rfl rfl rfl (c_144 o) ?_
    rintro h8 ⟨o8, f8⟩
    have o : Mo h8 _ _ _ _ _ _ _ _ := o8
    have a1 := a1.fr f8 (by omega)
    have a2 := a2.fr f8 (by omega)
    have a3 := a3.fr f8 (by omega)
    have a4 := a4.fr f8 (by omega)
    have a5 := a5.fr f8 (by omega)
    have hW := hW.mv f8 (by omega) (by omega) (by omega) (by omega)
    have aT := aT.fr f8 (by omega)
    have aC := aC.fr f8 (by omega)
    have aB := aB.fr f8 (by omega)
    have F := F.trans (f8.mono fun x e => by omega)
    refine ax_ireturn f210_28 rfl rfl ?_
    exact ⟨rI_of rfl, ⟨⟨_, _, _, _, _, o⟩, a1, ⟨_, a2, e2⟩, ⟨_, a3, e3⟩, a4, ⟨_, a5⟩, hW, aT, ⟨_, aC⟩, ⟨_, aB⟩⟩, F⟩
  · refine ax_aload_n f210_0 rfl ?_
    refine ax_iconst f210_1 ?_
    refine ax_putfO f210_2 o rfl rfl rfl rfl (fun hp1 o1 r1 => ?_)
    have o : Mo hp1 _ _ _ _ _ _ _ _ := o1
    have a1 := a1.fr r1 (by omega)
    have a2 := a2.fr r1 (by omega)
    have a3 := a3.fr r1 (by omega)
    have a4 := a4.fr r1 (by omega)
    have a5 := a5.fr r1 (by omega)
    have hW := hW.mv r1 (by omega) (by omega) (by omega) (by omega)
    have aT := aT.fr r1 (by omega)
    have aC := aC.fr r1 (by omega)
    have aB := aB.fr r1 (by omega)
    have F := F.trans (r1.mono fun x e => by omega)
    refine ax_iload_n f210_5 rfl ?_
    refine ax_iconst f210_6 ?_
    refine ax_iconst f210_7 ?_
    refine ax_csI (rest := []) f210_8 (Or.inl rfl) rfl rfl rfl rfl rfl rfl (c_145 hw ⟨by decide, by decide⟩ ⟨by decide, by decide⟩) ?_
    intro _ e_
    obtain rfl := e_.symm
    clear e_
    refine ax_nmI (b2i_f c0) ?_
    refine ax_if_eq f210_11 rfl ⟨by omega, by omega⟩ (fun q11 => ?_) (fun q11 => absurd q11 (by omega))
    refine ax_aload_n f210_23 rfl ?_
    refine ax_iconst f210_24 ?_
    refine ax_cvI (rest := []) f210_25 o rfl rfl rfl rfl rfl rfl rfl rfl (c_144 o) ?_
    rintro h8 ⟨o8, f8⟩
    have o : Mo h8 _ _ _ _ _ _ _ _ := o8
    have a1 := a1.fr f8 (by omega)
    have a2 := a2.fr f8 (by omega)
    have a3 := a3.fr f8 (by omega)
    have a4 := a4.fr f8 (by omega)
    have a5 := a5.fr f8 (by omega)
    have hW := hW.mv f8 (by omega) (by omega) (by omega) (by omega)
    have aT := aT.fr f8 (by omega)
    have aC := aC.fr f8 (by omega)
    have aB := aB.fr f8 (by omega)
    have F := F.trans (f8.mono fun x e => by omega)
    refine ax_ireturn f210_28 rfl rfl ?_
    exact ⟨rI_of rfl, ⟨⟨_, _, _, _, _, o⟩, a1, ⟨_, a2, e2⟩, ⟨_, a3, e3⟩, a4, ⟨_, a5⟩, hW, aT, ⟨_, aC⟩, ⟨_, aB⟩⟩, F⟩
theorem m_210_2 {h : am_H} {R : Int → Int} {S : Int → Int → Int} {c : Int} {G : Nat → Int → Int} {b : Int → Int} {T : Int → Int} {L th : Int} (a : Mdl h (R, S, c, G, b, T, L) th) (k : okS (R, S, c, G, b, T, L)) {w0 q0 : Int} (hw : inI w0) (h0 : 0 ≤ w0 ∧ w0 < 3) (h1 : 0 ≤ q0 ∧ q0 ≤ 3) (h2 : ¬ (R 192 = 1 ∨ R 269 = 0)) : am_X 9 210 0 (am_ent 210 [.ref 120, .int (iI w0), .int (iI q0)]) [] h (Mot h (0) 2 (R, S, c, G, b, T, L)) := by
  show am_X 9 210 0 [.ref 120, .int (iI w0), .int (iI q0)] [] h _
  obtain ⟨⟨lk, pa, sp, fi, se, o⟩, a1, ⟨g2, a2, e2⟩, ⟨g3, a3, e3⟩, a4, ⟨g5, a5⟩, hW, aT, ⟨gC, aC⟩, gB, aB⟩ := a
  have o : Mo h c th lk pa L sp fi se := o
  have a1 : oI h 121 270 R := a1
  have e2 : ∀ k j, 0 ≤ k → k < c → 0 ≤ j → j < 270 → g2 (270 * k + j) = S k j := e2
  have e3 : ∀ (q : Nat) j, q < 2 → b q = 1 → 0 ≤ j → j < 270 → g3 (270 * q + j) = G q j := e3
  have a4 : oA 2 h 124 2 b := a4
  have aT : oI h 130 120 T := aT
  have i : inv R := k.1
  have iS : ∀ k, 0 ≤ k → k < c → inv (S k) := k.2.1
  have hc : 0 ≤ c ∧ c ≤ 14 := k.2.2.1
  have iG : ∀ q : Nat, q < 2 → b q = 1 → inv (G q) := k.2.2.2.1
  have hb : ∀ j, 0 ≤ j → j < 2 → b j = 0 ∨ b j = 1 := k.2.2.2.2.1
  have hL : 0 ≤ L ∧ L ≤ 120 := k.2.2.2.2.2.1
  have hT : ∀ j, 0 ≤ j → j < L → 0 ≤ T j ∧ T j ≤ 255 := k.2.2.2.2.2.2
  clear k
  have F : fr (fun x => 120 ≤ x ∧ x ≤ 132) h h := fr_rf
  have hq : inI q0 := ⟨by omega, by omega⟩
  refine ax_aload_n f210_0 rfl ?_
  refine ax_iconst f210_1 ?_
  refine ax_putfO f210_2 o rfl rfl rfl rfl (fun hp1 o1 r1 => ?_)
  have o : Mo hp1 _ _ _ _ _ _ _ _ := o1
  have a1 := a1.fr r1 (by omega)
  have a2 := a2.fr r1 (by omega)
  have a3 := a3.fr r1 (by omega)
  have a4 := a4.fr r1 (by omega)
  have a5 := a5.fr r1 (by omega)
  have hW := hW.mv r1 (by omega) (by omega) (by omega) (by omega)
  have aT := aT.fr r1 (by omega)
  have aC := aC.fr r1 (by omega)
  have aB := aB.fr r1 (by omega)
  have F := F.trans (r1.mono fun x e => by omega)
  refine ax_iload_n f210_5 rfl ?_
  refine ax_iconst f210_6 ?_
  refine ax_iconst f210_7 ?_
  refine ax_csI (rest := []) f210_8 (Or.inl rfl) rfl rfl rfl rfl rfl rfl (c_145 hw ⟨by decide, by decide⟩ ⟨by decide, by decide⟩) ?_
  intro _ e_
  obtain rfl := e_.symm
  clear e_
  refine ax_nmI (b2i_t (show 0 ≤ w0 ∧ w0 ≤ 2 by omega)) ?_
  refine ax_if_eq f210_11 rfl ⟨by omega, by omega⟩ (fun q11 => absurd q11 (by omega)) (fun q11 => ?_)
  refine ax_iload_n f210_14 rfl ?_
  refine ax_iconst f210_15 ?_
  refine ax_iconst f210_16 ?_
  refine ax_csI (rest := []) f210_17 (Or.inl rfl) rfl rfl rfl rfl rfl rfl (c_145 hq ⟨by decide, by decide⟩ ⟨by decide, by decide⟩) ?_
  intro _ e_
  obtain rfl := e_.symm
  clear e_
  refine ax_nmI (b2i_t h1) ?_
  refine ax_if_ne f210_20 rfl ⟨by omega, by omega⟩ (fun q20 => ?_) (fun q20 => absurd q20 (by omega))
  refine ax_aload_n f210_29 rfl ?_
  refine ax_cvI (rest := []) f210_30 o rfl rfl rfl rfl rfl rfl rfl rfl (c_171 o a1 i.td i.tr) ?_
  intro _ e_
  obtain rfl := e_.symm
  clear e_
  refine ax_nmI (b2i_f h2) ?_
  refine ax_if_eq f210_33 rfl ⟨by omega, by omega⟩ (fun q33 => ?_) (fun q33 => absurd q33 (by omega))
  refine ax_aload_n f210_45 rfl ?_
  refine ax_iconst f210_46 ?_
  refine ax_cvI (rest := []) f210_47 o rfl rfl rfl rfl rfl rfl rfl rfl (c_144 o) ?_
  rintro h8 ⟨o8, f8⟩
  have o : Mo h8 _ _ _ _ _ _ _ _ := o8
  have a1 := a1.fr f8 (by omega)
  have a2 := a2.fr f8 (by omega)
  have a3 := a3.fr f8 (by omega)
  have a4 := a4.fr f8 (by omega)
  have a5 := a5.fr f8 (by omega)
  have hW := hW.mv f8 (by omega) (by omega) (by omega) (by omega)
  have aT := aT.fr f8 (by omega)
  have aC := aC.fr f8 (by omega)
  have aB := aB.fr f8 (by omega)
  have F := F.trans (f8.mono fun x e => by omega)
  refine ax_ireturn f210_50 rfl rfl ?_
  exact ⟨rI_of rfl, ⟨⟨_, _, _, _, _, o⟩, a1, ⟨_, a2, e2⟩, ⟨_, a3, e3⟩, a4, ⟨_, a5⟩, hW, aT, ⟨_, aC⟩, ⟨_, aB⟩⟩, F⟩
theorem m_210 {h : am_H} {R : Int → Int} {S : Int → Int → Int} {c : Int} {G : Nat → Int → Int} {b : Int → Int} {T : Int → Int} {L th : Int} (a : Mdl h (R, S, c, G, b, T, L) th) (k : okS (R, S, c, G, b, T, L)) {w0 q0 : Int} (hw : inI w0) (h0 : 0 ≤ w0 ∧ w0 < 3) (h1 : 0 ≤ q0 ∧ q0 ≤ 3) (h2 : R 192 = 1 ∨ R 269 = 0) : am_X 9 210 0 (am_ent 210 [.ref 120, .int (iI w0), .int (iI q0)]) [] h (Mot h (isg R w0 q0) 0 (R, S, c, G, b, T, L)) := by
  show am_X 9 210 0 [.ref 120, .int (iI w0), .int (iI q0)] [] h _
  obtain ⟨⟨lk, pa, sp, fi, se, o⟩, a1, ⟨g2, a2, e2⟩, ⟨g3, a3, e3⟩, a4, ⟨g5, a5⟩, hW, aT, ⟨gC, aC⟩, gB, aB⟩ := a
  have o : Mo h c th lk pa L sp fi se := o
  have a1 : oI h 121 270 R := a1
  have e2 : ∀ k j, 0 ≤ k → k < c → 0 ≤ j → j < 270 → g2 (270 * k + j) = S k j := e2
  have e3 : ∀ (q : Nat) j, q < 2 → b q = 1 → 0 ≤ j → j < 270 → g3 (270 * q + j) = G q j := e3
  have a4 : oA 2 h 124 2 b := a4
  have aT : oI h 130 120 T := aT
  have i : inv R := k.1
  have iS : ∀ k, 0 ≤ k → k < c → inv (S k) := k.2.1
  have hc : 0 ≤ c ∧ c ≤ 14 := k.2.2.1
  have iG : ∀ q : Nat, q < 2 → b q = 1 → inv (G q) := k.2.2.2.1
  have hb : ∀ j, 0 ≤ j → j < 2 → b j = 0 ∨ b j = 1 := k.2.2.2.2.1
  have hL : 0 ≤ L ∧ L ≤ 120 := k.2.2.2.2.2.1
  have hT : ∀ j, 0 ≤ j → j < L → 0 ≤ T j ∧ T j ≤ 255 := k.2.2.2.2.2.2
  clear k
  have F : fr (fun x => 120 ≤ x ∧ x ≤ 132) h h := fr_rf
  have hq : inI q0 := ⟨by omega, by omega⟩
  refine ax_aload_n f210_0 rfl ?_
  refine ax_iconst f210_1 ?_
  refine ax_putfO f210_2 o rfl rfl rfl rfl (fun hp1 o1 r1 => ?_)
  have o : Mo hp1 _ _ _ _ _ _ _ _ := o1
  have a1 := a1.fr r1 (by omega)
  have a2 := a2.fr r1 (by omega)
  have a3 := a3.fr r1 (by omega)
  have a4 := a4.fr r1 (by omega)
  have a5 := a5.fr r1 (by omega)
  have hW := hW.mv r1 (by omega) (by omega) (by omega) (by omega)
  have aT := aT.fr r1 (by omega)
  have aC := aC.fr r1 (by omega)
  have aB := aB.fr r1 (by omega)
  have F := F.trans (r1.mono fun x e => by omega)
  refine ax_iload_n f210_5 rfl ?_
  refine ax_iconst f210_6 ?_
  refine ax_iconst f210_7 ?_
  refine ax_csI (rest := []) f210_8 (Or.inl rfl) rfl rfl rfl rfl rfl rfl (c_145 hw ⟨by decide, by decide⟩ ⟨by decide, by decide⟩) ?_
  intro _ e_
  obtain rfl := e_.symm
  clear e_
  refine ax_nmI (b2i_t (show 0 ≤ w0 ∧ w0 ≤ 2 by omega)) ?_
  refine ax_if_eq f210_11 rfl ⟨by omega, by omega⟩ (fun q11 => absurd q11 (by omega)) (fun q11 => ?_)
  refine ax_iload_n f210_14 rfl ?_
  refine ax_iconst f210_15 ?_
  refine ax_iconst f210_16 ?_
  refine ax_csI (rest := []) f210_17 (Or.inl rfl) rfl rfl rfl rfl rfl rfl (c_145 hq ⟨by decide, by decide⟩ ⟨by decide, by decide⟩) ?_
  intro _ e_
  obtain rfl := e_.symm
  clear e_
  refine ax_nmI (b2i_t h1) ?_
  refine ax_if_ne f210_20 rfl ⟨by omega, by omega⟩ (fun q20 => ?_) (fun q20 => absurd q20 (by omega))
  refine ax_aload_n f210_29 rfl ?_
  refine ax_cvI (rest := []) f210_30 o rfl rfl rfl rfl rfl rfl rfl rfl (c_171 o a1 i.td i.tr) ?_
  intro _ e_
  obtain rfl := e_.symm
  clear e_
  refine ax_nmI (b2i_t h2) ?_
  refine ax_if_eq f210_33 rfl ⟨by omega, by omega⟩ (fun q33 => absurd q33 (by omega)) (fun q33 => ?_)
  refine ax_aload_n f210_36 rfl ?_
  refine ax_iload_n f210_37 rfl ?_
  refine ax_iload_n f210_38 rfl ?_
  refine ax_cvI (rest := []) f210_39 o rfl rfl rfl rfl rfl rfl rfl rfl (c_209 o a1 (show w0 = 0 ∨ w0 = 1 ∨ w0 = 2 by omega) (show q0 = 0 ∨ q0 = 1 ∨ q0 = 2 ∨ q0 = 3 by omega) i hW) ?_
  rintro h8 ⟨⟨lk8, pa8, o8⟩, hW8, f8⟩
  have o : Mo h8 _ _ _ _ _ _ _ _ := o8
  have a1 := a1.fr f8 (by omega)
  have a2 := a2.fr f8 (by omega)
  have a3 := a3.fr f8 (by omega)
  have a4 := a4.fr f8 (by omega)
  have a5 := a5.fr f8 (by omega)
  have hW := hW8
  have aT := aT.fr f8 (by omega)
  have aC := aC.fr f8 (by omega)
  have aB := aB.fr f8 (by omega)
  have F := F.trans (f8.mono fun x e => by omega)
  refine ax_goto f210_42 rfl ?_
  refine ax_ireturn f210_50 rfl rfl ?_
  exact ⟨rI_of rfl, ⟨⟨_, _, _, _, _, o⟩, a1, ⟨_, a2, e2⟩, ⟨_, a3, e3⟩, a4, ⟨_, a5⟩, hW, aT, ⟨_, aC⟩, ⟨_, aB⟩⟩, F⟩
theorem lp_211 {d : Nat} {Q : am_R → am_H → Prop} {R : Int → Int} {c th le sp fi se : Int} (i : inv R) : ∀ (n : Nat) {h : am_H} {lk pa w best : Int} (o : Mo h c th lk pa le sp fi se) (a1 : oI h 121 270 R) (hW : Wk h), w + n = 3 → 0 < w ∧ 0 ≤ best ∧ best < w → (∀ (h' : am_H) (lk' pa' : Int), Mo h' c th lk' pa' le sp fi se → Wk h' → fr (fun x => x = 120 ∨ x = 126 ∨ x = 127 ∨ x = 128 ∨ x = 129) h h' → am_X (d + 9) 211 50 [.ref 120, .int (iI (bwl R n w best)), .int (iI 3)] [] h' Q) → am_X (d + 9) 211 18 [.ref 120, .int (iI best), .int (iI w)] [] h Q
  | 0, h, lk, pa, w, best, o, a1, hW, h1, h2, k => by
    have h1 : w = 3 := by omega
    subst h1
    refine ax_iload_n f211_18 rfl ?_
    refine ax_iconst f211_19 ?_
    refine ax_icmp_ge f211_20 rfl ⟨by omega, by omega⟩ ⟨by omega, by omega⟩ (fun q20 => ?_) (fun q20 => absurd q20 (by omega))
    exact k h lk pa o hW fr_rf
  | n + 1, h, lk, pa, w, best, o, a1, hW, h1, h2, k => by
    refine ax_iload_n f211_18 rfl ?_
    refine ax_iconst f211_19 ?_
    refine ax_icmp_ge f211_20 rfl ⟨by omega, by omega⟩ ⟨by omega, by omega⟩ (fun q20 => absurd q20 (by omega)) (fun q20 => ?_)
    refine ax_aload_n f211_23 rfl ?_
    refine ax_iload_n f211_24 rfl ?_
    refine ax_iconst f211_25 ?_
    refine ax_cvI (rest := []) f211_26 o rfl rfl rfl rfl rfl rfl rfl rfl (c_209 o a1 (show w = 0 ∨ w = 1 ∨ w = 2 by omega) (Or.inl rfl) i hW) ?_
    rintro h8 ⟨⟨lk8, pa8, o8⟩, hW8, f8⟩
    have o : Mo h8 _ _ _ _ _ _ _ _ := o8
    have a1 := a1.fr f8 (by omega)
    have hW := hW8
    refine ax_aload_n f211_29 rfl ?_
    refine ax_iload_n f211_30 rfl ?_
    refine ax_iconst f211_31 ?_
    refine ax_cvI (rest := [_]) f211_32 o rfl rfl rfl rfl rfl rfl rfl rfl (c_209 o a1 (show best = 0 ∨ best = 1 ∨ best = 2 by omega) (Or.inl rfl) i hW) ?_
    rintro h7 ⟨⟨lk7, pa7, o7⟩, hW7, f7⟩
    have o : Mo h7 _ _ _ _ _ _ _ _ := o7
    have a1 := a1.fr f7 (by omega)
    have hW := hW7
    have s1 : 0 ≤ isg R w 0 ∧ isg R w 0 ≤ 200 := (sek_sp i.ff i.b12 w).2
    have s2 : 0 ≤ isg R best 0 ∧ isg R best 0 ≤ 200 := (sek_sp i.ff i.b12 best).2
    refine ax_icmp_ge f211_35 rfl ⟨by omega, by omega⟩ ⟨by omega, by omega⟩ (fun q35 => ?_) (fun q35 => ?_)
    · refine ax_iload_n f211_42 rfl ?_
      refine ax_istore_n (ls' := [_, _, _]) f211_43 (Nat.le_of_ble_eq_true rfl) rfl ?_
      refine ax_iinc (ls' := [_, _, _]) f211_44 rfl (Nat.le_of_ble_eq_true rfl) rfl ?_
      refine ax_goto f211_47 rfl ?_
      refine lp_211 i n (w := w + 1) (best := best) o a1 hW (by omega) (by omega) ?_
      intro h6 lk6 pa6 o6 hW6 f6
      have e : bwl R (n + 1) w best = bwl R n (w + 1) best := by
        show bwl R n (w + 1) (if isg R w 0 < isg R best 0 then w else best) = _
        rw [if_neg (by omega)]
      have k := k h6 lk6 pa6 o6 hW6 (f8.trans (f7.trans f6))
      rw [e] at k
      exact k
    · refine ax_iload_n f211_38 rfl ?_
      refine ax_goto f211_39 rfl ?_
      refine ax_istore_n (ls' := [_, _, _]) f211_43 (Nat.le_of_ble_eq_true rfl) rfl ?_
      refine ax_iinc (ls' := [_, _, _]) f211_44 rfl (Nat.le_of_ble_eq_true rfl) rfl ?_
      refine ax_goto f211_47 rfl ?_
      refine lp_211 i n (w := w + 1) (best := w) o a1 hW (by omega) (by omega) ?_
      intro h6 lk6 pa6 o6 hW6 f6
      have e : bwl R (n + 1) w best = bwl R n (w + 1) w := by
        show bwl R n (w + 1) (if isg R w 0 < isg R best 0 then w else best) = _
        rw [if_pos (by omega)]
      have k := k h6 lk6 pa6 o6 hW6 (f8.trans (f7.trans f6))
      rw [e] at k
      exact k
theorem m_211_n {h : am_H} {R : Int → Int} {S : Int → Int → Int} {c : Int} {G : Nat → Int → Int} {b : Int → Int} {T : Int → Int} {L th : Int} (a : Mdl h (R, S, c, G, b, T, L) th) (k : okS (R, S, c, G, b, T, L)) (h0 : ¬ (R 192 = 1 ∨ R 269 = 0)) : am_X 9 211 0 (am_ent 211 [.ref 120]) [] h (Mot h (bwy R) 0 (R, S, c, G, b, T, L)) := by
  show am_X 9 211 0 [.ref 120, am_u, am_u] [] h _
  obtain ⟨⟨lk, pa, sp, fi, se, o⟩, a1, ⟨g2, a2, e2⟩, ⟨g3, a3, e3⟩, a4, ⟨g5, a5⟩, hW, aT, ⟨gC, aC⟩, gB, aB⟩ := a
  have o : Mo h c th lk pa L sp fi se := o
  have a1 : oI h 121 270 R := a1
  have e2 : ∀ k j, 0 ≤ k → k < c → 0 ≤ j → j < 270 → g2 (270 * k + j) = S k j := e2
  have e3 : ∀ (q : Nat) j, q < 2 → b q = 1 → 0 ≤ j → j < 270 → g3 (270 * q + j) = G q j := e3
  have a4 : oA 2 h 124 2 b := a4
  have aT : oI h 130 120 T := aT
  have i : inv R := k.1
  have iS : ∀ k, 0 ≤ k → k < c → inv (S k) := k.2.1
  have hc : 0 ≤ c ∧ c ≤ 14 := k.2.2.1
  have iG : ∀ q : Nat, q < 2 → b q = 1 → inv (G q) := k.2.2.2.1
  have hb : ∀ j, 0 ≤ j → j < 2 → b j = 0 ∨ b j = 1 := k.2.2.2.2.1
  have hL : 0 ≤ L ∧ L ≤ 120 := k.2.2.2.2.2.1
  have hT : ∀ j, 0 ≤ j → j < L → 0 ≤ T j ∧ T j ≤ 255 := k.2.2.2.2.2.2
  clear k
  have F : fr (fun x => 120 ≤ x ∧ x ≤ 132) h h := fr_rf
  refine ax_aload_n f211_0 rfl ?_
  refine ax_iconst f211_1 ?_
  refine ax_putfO f211_2 o rfl rfl rfl rfl (fun hp1 o1 r1 => ?_)
  have o : Mo hp1 _ _ _ _ _ _ _ _ := o1
  have a1 := a1.fr r1 (by omega)
  have a2 := a2.fr r1 (by omega)
  have a3 := a3.fr r1 (by omega)
  have a4 := a4.fr r1 (by omega)
  have a5 := a5.fr r1 (by omega)
  have hW := hW.mv r1 (by omega) (by omega) (by omega) (by omega)
  have aT := aT.fr r1 (by omega)
  have aC := aC.fr r1 (by omega)
  have aB := aB.fr r1 (by omega)
  have F := F.trans (r1.mono fun x e => by omega)
  refine ax_aload_n f211_5 rfl ?_
  refine ax_cvI (rest := []) f211_6 o rfl rfl rfl rfl rfl rfl rfl rfl (c_171 o a1 i.td i.tr) ?_
  intro _ e_
  obtain rfl := e_.symm
  clear e_
  refine ax_nmI (b2i_f h0) ?_
  refine ax_if_ne f211_9 rfl ⟨by omega, by omega⟩ (fun q9 => absurd q9 (by omega)) (fun q9 => ?_)
  refine ax_iconst f211_12 ?_
  refine ax_ireturn f211_13 rfl rfl ?_
  exact ⟨rI_of (by unfold bwy; rw [if_neg h0]), ⟨⟨_, _, _, _, _, o⟩, a1, ⟨_, a2, e2⟩, ⟨_, a3, e3⟩, a4, ⟨_, a5⟩, hW, aT, ⟨_, aC⟩, ⟨_, aB⟩⟩, F⟩
theorem m_211_y {h : am_H} {R : Int → Int} {S : Int → Int → Int} {c : Int} {G : Nat → Int → Int} {b : Int → Int} {T : Int → Int} {L th : Int} (a : Mdl h (R, S, c, G, b, T, L) th) (k : okS (R, S, c, G, b, T, L)) (h0 : R 192 = 1 ∨ R 269 = 0) : am_X 9 211 0 (am_ent 211 [.ref 120]) [] h (Mot h (bwy R) 0 (R, S, c, G, b, T, L)) := by
  show am_X 9 211 0 [.ref 120, am_u, am_u] [] h _
  obtain ⟨⟨lk, pa, sp, fi, se, o⟩, a1, ⟨g2, a2, e2⟩, ⟨g3, a3, e3⟩, a4, ⟨g5, a5⟩, hW, aT, ⟨gC, aC⟩, gB, aB⟩ := a
  have o : Mo h c th lk pa L sp fi se := o
  have a1 : oI h 121 270 R := a1
  have e2 : ∀ k j, 0 ≤ k → k < c → 0 ≤ j → j < 270 → g2 (270 * k + j) = S k j := e2
  have e3 : ∀ (q : Nat) j, q < 2 → b q = 1 → 0 ≤ j → j < 270 → g3 (270 * q + j) = G q j := e3
  have a4 : oA 2 h 124 2 b := a4
  have aT : oI h 130 120 T := aT
  have i : inv R := k.1
  have iS : ∀ k, 0 ≤ k → k < c → inv (S k) := k.2.1
  have hc : 0 ≤ c ∧ c ≤ 14 := k.2.2.1
  have iG : ∀ q : Nat, q < 2 → b q = 1 → inv (G q) := k.2.2.2.1
  have hb : ∀ j, 0 ≤ j → j < 2 → b j = 0 ∨ b j = 1 := k.2.2.2.2.1
  have hL : 0 ≤ L ∧ L ≤ 120 := k.2.2.2.2.2.1
  have hT : ∀ j, 0 ≤ j → j < L → 0 ≤ T j ∧ T j ≤ 255 := k.2.2.2.2.2.2
  clear k
  have F : fr (fun x => 120 ≤ x ∧ x ≤ 132) h h := fr_rf
  refine ax_aload_n f211_0 rfl ?_
  refine ax_iconst f211_1 ?_
  refine ax_putfO f211_2 o rfl rfl rfl rfl (fun hp1 o1 r1 => ?_)
  have o : Mo hp1 _ _ _ _ _ _ _ _ := o1
  have a1 := a1.fr r1 (by omega)
  have a2 := a2.fr r1 (by omega)
  have a3 := a3.fr r1 (by omega)
  have a4 := a4.fr r1 (by omega)
  have a5 := a5.fr r1 (by omega)
  have hW := hW.mv r1 (by omega) (by omega) (by omega) (by omega)
  have aT := aT.fr r1 (by omega)
  have aC := aC.fr r1 (by omega)
  have aB := aB.fr r1 (by omega)
  have F := F.trans (r1.mono fun x e => by omega)
  refine ax_aload_n f211_5 rfl ?_
  refine ax_cvI (rest := []) f211_6 o rfl rfl rfl rfl rfl rfl rfl rfl (c_171 o a1 i.td i.tr) ?_
  intro _ e_
  obtain rfl := e_.symm
  clear e_
  refine ax_nmI (b2i_t h0) ?_
  refine ax_if_ne f211_9 rfl ⟨by omega, by omega⟩ (fun q9 => ?_) (fun q9 => absurd q9 (by omega))
  refine ax_iconst f211_14 ?_
  refine ax_istore_n (ls' := [_, _, _]) f211_15 (Nat.le_of_ble_eq_true rfl) rfl ?_
  refine ax_iconst f211_16 ?_
  refine ax_istore_n (ls' := [_, _, _]) f211_17 (Nat.le_of_ble_eq_true rfl) rfl ?_
  refine lp_211 (d := 0) i 2 (w := 1) (best := 0) o a1 hW (by omega) (by omega) ?_
  intro h6 lk6 pa6 o6 hW6 f6
  have o : Mo h6 _ _ _ _ _ _ _ _ := o6
  have a1 := a1.fr f6 (by omega)
  have a2 := a2.fr f6 (by omega)
  have a3 := a3.fr f6 (by omega)
  have a4 := a4.fr f6 (by omega)
  have a5 := a5.fr f6 (by omega)
  have hW := hW6
  have aT := aT.fr f6 (by omega)
  have aC := aC.fr f6 (by omega)
  have aB := aB.fr f6 (by omega)
  have F := F.trans (f6.mono fun x e => by omega)
  refine ax_iload_n f211_50 rfl ?_
  refine ax_ireturn f211_51 rfl rfl ?_
  exact ⟨rI_of (by unfold bwy; rw [if_pos h0]), ⟨⟨_, _, _, _, _, o⟩, a1, ⟨_, a2, e2⟩, ⟨_, a3, e3⟩, a4, ⟨_, a5⟩, hW, aT, ⟨_, aC⟩, ⟨_, aB⟩⟩, F⟩
theorem m_214_1 {h : am_H} {R : Int → Int} {S : Int → Int → Int} {c : Int} {G : Nat → Int → Int} {b : Int → Int} {T : Int → Int} {L th : Int} (a : Mdl h (R, S, c, G, b, T, L) th) (k : okS (R, S, c, G, b, T, L)) {n w0 q0 : Int} (hn : inI n) (h0 : ¬ (0 ≤ n ∧ n < blk R)) : am_X 5 214 0 (am_ent 214 [.ref 120, .int (iI n), .int (iI w0), .int (iI q0)]) [] h (Mot h (0) 1 (R, S, c, G, b, T, L)) := by
  show am_X 5 214 0 [.ref 120, .int (iI n), .int (iI w0), .int (iI q0)] [] h _
  obtain ⟨⟨lk, pa, sp, fi, se, o⟩, a1, ⟨g2, a2, e2⟩, ⟨g3, a3, e3⟩, a4, ⟨g5, a5⟩, hW, aT, ⟨gC, aC⟩, gB, aB⟩ := a
  have o : Mo h c th lk pa L sp fi se := o
  have a1 : oI h 121 270 R := a1
  have e2 : ∀ k j, 0 ≤ k → k < c → 0 ≤ j → j < 270 → g2 (270 * k + j) = S k j := e2
  have e3 : ∀ (q : Nat) j, q < 2 → b q = 1 → 0 ≤ j → j < 270 → g3 (270 * q + j) = G q j := e3
  have a4 : oA 2 h 124 2 b := a4
  have aT : oI h 130 120 T := aT
  have i : inv R := k.1
  have iS : ∀ k, 0 ≤ k → k < c → inv (S k) := k.2.1
  have hc : 0 ≤ c ∧ c ≤ 14 := k.2.2.1
  have iG : ∀ q : Nat, q < 2 → b q = 1 → inv (G q) := k.2.2.2.1
  have hb : ∀ j, 0 ≤ j → j < 2 → b j = 0 ∨ b j = 1 := k.2.2.2.2.1
  have hL : 0 ≤ L ∧ L ≤ 120 := k.2.2.2.2.2.1
  have hT : ∀ j, 0 ≤ j → j < L → 0 ≤ T j ∧ T j ≤ 255 := k.2.2.2.2.2.2
  clear k
  have F : fr (fun x => 120 ≤ x ∧ x ≤ 132) h h := fr_rf
  refine ax_aload_n f214_0 rfl ?_
  refine ax_iconst f214_1 ?_
  refine ax_putfO f214_2 o rfl rfl rfl rfl (fun hp1 o1 r1 => ?_)
  have o : Mo hp1 _ _ _ _ _ _ _ _ := o1
  have a1 := a1.fr r1 (by omega)
  have a2 := a2.fr r1 (by omega)
  have a3 := a3.fr r1 (by omega)
  have a4 := a4.fr r1 (by omega)
  have a5 := a5.fr r1 (by omega)
  have hW := hW.mv r1 (by omega) (by omega) (by omega) (by omega)
  have aT := aT.fr r1 (by omega)
  have aC := aC.fr r1 (by omega)
  have aB := aB.fr r1 (by omega)
  have F := F.trans (r1.mono fun x e => by omega)
  refine ax_aload_n f214_5 rfl ?_
  refine ax_iload_n f214_6 rfl ?_
  refine ax_cvI (rest := []) f214_7 o rfl rfl rfl rfl rfl rfl rfl rfl (c_152 o a1 i.ff i.b12 hn) ?_
  intro _ e_
  obtain rfl := e_.symm
  clear e_
  refine ax_nmI (b2i_f h0) ?_
  refine ax_if_ne f214_10 rfl ⟨by omega, by omega⟩ (fun q10 => absurd q10 (by omega)) (fun q10 => ?_)
  refine ax_aload_n f214_13 rfl ?_
  refine ax_iconst f214_14 ?_
  refine ax_cvI (rest := []) f214_15 o rfl rfl rfl rfl rfl rfl rfl rfl (c_144 o) ?_
  rintro h8 ⟨o8, f8⟩
  have o : Mo h8 _ _ _ _ _ _ _ _ := o8
  have a1 := a1.fr f8 (by omega)
  have a2 := a2.fr f8 (by omega)
  have a3 := a3.fr f8 (by omega)
  have a4 := a4.fr f8 (by omega)
  have a5 := a5.fr f8 (by omega)
  have hW := hW.mv f8 (by omega) (by omega) (by omega) (by omega)
  have aT := aT.fr f8 (by omega)
  have aC := aC.fr f8 (by omega)
  have aB := aB.fr f8 (by omega)
  have F := F.trans (f8.mono fun x e => by omega)
  refine ax_ireturn f214_18 rfl rfl ?_
  exact ⟨rI_of rfl, ⟨⟨_, _, _, _, _, o⟩, a1, ⟨_, a2, e2⟩, ⟨_, a3, e3⟩, a4, ⟨_, a5⟩, hW, aT, ⟨_, aC⟩, ⟨_, aB⟩⟩, F⟩
theorem m_214_2 {h : am_H} {R : Int → Int} {S : Int → Int → Int} {c : Int} {G : Nat → Int → Int} {b : Int → Int} {T : Int → Int} {L th : Int} (a : Mdl h (R, S, c, G, b, T, L) th) (k : okS (R, S, c, G, b, T, L)) {n w0 q0 : Int} (hn : inI n) (hw : inI w0) (hq : inI q0) (h0 : 0 ≤ n ∧ n < blk R) (h1 : ¬ ((0 ≤ w0 ∧ w0 < 3) ∧ (0 ≤ q0 ∧ q0 ≤ 1))) : am_X 5 214 0 (am_ent 214 [.ref 120, .int (iI n), .int (iI w0), .int (iI q0)]) [] h (Mot h (0) 2 (R, S, c, G, b, T, L)) := by
  show am_X 5 214 0 [.ref 120, .int (iI n), .int (iI w0), .int (iI q0)] [] h _
  obtain ⟨⟨lk, pa, sp, fi, se, o⟩, a1, ⟨g2, a2, e2⟩, ⟨g3, a3, e3⟩, a4, ⟨g5, a5⟩, hW, aT, ⟨gC, aC⟩, gB, aB⟩ := a
  have o : Mo h c th lk pa L sp fi se := o
  have a1 : oI h 121 270 R := a1
  have e2 : ∀ k j, 0 ≤ k → k < c → 0 ≤ j → j < 270 → g2 (270 * k + j) = S k j := e2
  have e3 : ∀ (q : Nat) j, q < 2 → b q = 1 → 0 ≤ j → j < 270 → g3 (270 * q + j) = G q j := e3
  have a4 : oA 2 h 124 2 b := a4
  have aT : oI h 130 120 T := aT
  have i : inv R := k.1
  have iS : ∀ k, 0 ≤ k → k < c → inv (S k) := k.2.1
  have hc : 0 ≤ c ∧ c ≤ 14 := k.2.2.1
  have iG : ∀ q : Nat, q < 2 → b q = 1 → inv (G q) := k.2.2.2.1
  have hb : ∀ j, 0 ≤ j → j < 2 → b j = 0 ∨ b j = 1 := k.2.2.2.2.1
  have hL : 0 ≤ L ∧ L ≤ 120 := k.2.2.2.2.2.1
  have hT : ∀ j, 0 ≤ j → j < L → 0 ≤ T j ∧ T j ≤ 255 := k.2.2.2.2.2.2
  clear k
  have F : fr (fun x => 120 ≤ x ∧ x ≤ 132) h h := fr_rf
  by_cases c0 : 0 ≤ w0 ∧ w0 ≤ 2
  · have c1 : ¬ (0 ≤ q0 ∧ q0 ≤ 1) := by omega
    refine ax_aload_n f214_0 rfl ?_
    refine ax_iconst f214_1 ?_
    refine ax_putfO f214_2 o rfl rfl rfl rfl (fun hp1 o1 r1 => ?_)
    have o : Mo hp1 _ _ _ _ _ _ _ _ := o1
    have a1 := a1.fr r1 (by omega)
    have a2 := a2.fr r1 (by omega)
    have a3 := a3.fr r1 (by omega)
    have a4 := a4.fr r1 (by omega)
    have a5 := a5.fr r1 (by omega)
    have hW := hW.mv r1 (by omega) (by omega) (by omega) (by omega)
    have aT := aT.fr r1 (by omega)
    have aC := aC.fr r1 (by omega)
    have aB := aB.fr r1 (by omega)
    have F := F.trans (r1.mono fun x e => by omega)
    refine ax_aload_n f214_5 rfl ?_
    refine ax_iload_n f214_6 rfl ?_
    refine ax_cvI (rest := []) f214_7 o rfl rfl rfl rfl rfl rfl rfl rfl (c_152 o a1 i.ff i.b12 hn) ?_
    intro _ e_
    obtain rfl := e_.symm
    clear e_
    refine ax_nmI (b2i_t h0) ?_
    refine ax_if_ne f214_10 rfl ⟨by omega, by omega⟩ (fun q10 => ?_) (fun q10 => absurd q10 (by omega))
    refine ax_iload_n f214_19 rfl ?_
    refine ax_iconst f214_20 ?_
    refine ax_iconst f214_21 ?_
    refine ax_csI (rest := []) f214_22 (Or.inl rfl) rfl rfl rfl rfl rfl rfl (c_145 hw ⟨by decide, by decide⟩ ⟨by decide, by decide⟩) ?_
    intro _ e_
    obtain rfl := e_.symm
    clear e_
    refine ax_nmI (b2i_t c0) ?_
    refine ax_if_eq f214_25 rfl ⟨by omega, by omega⟩ (fun q25 => absurd q25 (by omega)) (fun q25 => ?_)
    refine ax_iload_n f214_28 rfl ?_
    refine ax_iconst f214_29 ?_
    refine ax_iconst f214_30 ?_
    refine ax_csI (rest := []) f214_31 (Or.inl rfl) rfl rfl rfl rfl rfl rfl (c_145 hq ⟨by decide, by decide⟩ ⟨by decide, by decide⟩) ?_
    intro _ e_
    obtain rfl := e_.symm
    clear e_
    refine ax_nmI (b2i_f c1) ?_
    refine ax_if_eq f214_34 rfl ⟨by omega, by omega⟩ (fun q34 => ?_) (fun q34 => absurd q34 (by omega))
    refine ax_aload_n f214_47 rfl ?_
    refine ax_iconst f214_48 ?_
    refine ax_cvI (rest := []) f214_49 o rfl rfl rfl rfl rfl rfl rfl rfl (c_144 o) ?_
    rintro h8 ⟨o8, f8⟩
    have o : Mo h8 _ _ _ _ _ _ _ _ := o8
    have a1 := a1.fr f8 (by omega)
    have a2 := a2.fr f8 (by omega)
    have a3 := a3.fr f8 (by omega)
    have a4 := a4.fr f8 (by omega)
    have a5 := a5.fr f8 (by omega)
    have hW := hW.mv f8 (by omega) (by omega) (by omega) (by omega)
    have aT := aT.fr f8 (by omega)
    have aC := aC.fr f8 (by omega)
    have aB := aB.fr f8 (by omega)
    have F := F.trans (f8.mono fun x e => by omega)
    refine ax_ireturn f214_52 rfl rfl ?_
    exact ⟨rI_of rfl, ⟨⟨_, _, _, _, _, o⟩, a1, ⟨_, a2, e2⟩, ⟨_, a3, e3⟩, a4, ⟨_, a5⟩, hW, aT, ⟨_, aC⟩, ⟨_, aB⟩⟩, F⟩
  · refine ax_aload_n f214_0 rfl ?_
    refine ax_iconst f214_1 ?_
    refine ax_putfO f214_2 o rfl rfl rfl rfl (fun hp1 o1 r1 => ?_)
    have o : Mo hp1 _ _ _ _ _ _ _ _ := o1
    have a1 := a1.fr r1 (by omega)
    have a2 := a2.fr r1 (by omega)
    have a3 := a3.fr r1 (by omega)
    have a4 := a4.fr r1 (by omega)
    have a5 := a5.fr r1 (by omega)
    have hW := hW.mv r1 (by omega) (by omega) (by omega) (by omega)
    have aT := aT.fr r1 (by omega)
    have aC := aC.fr r1 (by omega)
    have aB := aB.fr r1 (by omega)
    have F := F.trans (r1.mono fun x e => by omega)
    refine ax_aload_n f214_5 rfl ?_
    refine ax_iload_n f214_6 rfl ?_
    refine ax_cvI (rest := []) f214_7 o rfl rfl rfl rfl rfl rfl rfl rfl (c_152 o a1 i.ff i.b12 hn) ?_
    intro _ e_
    obtain rfl := e_.symm
    clear e_
    refine ax_nmI (b2i_t h0) ?_
    refine ax_if_ne f214_10 rfl ⟨by omega, by omega⟩ (fun q10 => ?_) (fun q10 => absurd q10 (by omega))
    refine ax_iload_n f214_19 rfl ?_
    refine ax_iconst f214_20 ?_
    refine ax_iconst f214_21 ?_
    refine ax_csI (rest := []) f214_22 (Or.inl rfl) rfl rfl rfl rfl rfl rfl (c_145 hw ⟨by decide, by decide⟩ ⟨by decide, by decide⟩) ?_
    intro _ e_
    obtain rfl := e_.symm
    clear e_
    refine ax_nmI (b2i_f c0) ?_
    refine ax_if_eq f214_25 rfl ⟨by omega, by omega⟩ (fun q25 => ?_) (fun q25 => absurd q25 (by omega))
    refine ax_aload_n f214_47 rfl ?_
    refine ax_iconst f214_48 ?_
    refine ax_cvI (rest := []) f214_49 o rfl rfl rfl rfl rfl rfl rfl rfl (c_144 o) ?_
    rintro h8 ⟨o8, f8⟩
    have o : Mo h8 _ _ _ _ _ _ _ _ := o8
    have a1 := a1.fr f8 (by omega)
    have a2 := a2.fr f8 (by omega)
    have a3 := a3.fr f8 (by omega)
    have a4 := a4.fr f8 (by omega)
    have a5 := a5.fr f8 (by omega)
    have hW := hW.mv f8 (by omega) (by omega) (by omega) (by omega)
    have aT := aT.fr f8 (by omega)
    have aC := aC.fr f8 (by omega)
    have aB := aB.fr f8 (by omega)
    have F := F.trans (f8.mono fun x e => by omega)
    refine ax_ireturn f214_52 rfl rfl ?_
    exact ⟨rI_of rfl, ⟨⟨_, _, _, _, _, o⟩, a1, ⟨_, a2, e2⟩, ⟨_, a3, e3⟩, a4, ⟨_, a5⟩, hW, aT, ⟨_, aC⟩, ⟨_, aB⟩⟩, F⟩
theorem m_214 {h : am_H} {R : Int → Int} {S : Int → Int → Int} {c : Int} {G : Nat → Int → Int} {b : Int → Int} {T : Int → Int} {L th : Int} (a : Mdl h (R, S, c, G, b, T, L) th) (k : okS (R, S, c, G, b, T, L)) {n w0 q0 : Int} (hn : inI n) (hw : inI w0) (h0 : 0 ≤ n ∧ n < blk R) (h1 : 0 ≤ w0 ∧ w0 < 3) (h2 : 0 ≤ q0 ∧ q0 ≤ 1) : am_X 5 214 0 (am_ent 214 [.ref 120, .int (iI n), .int (iI w0), .int (iI q0)]) [] h (Mot h (if q0 = 0 then (lkb R w0 n).1 else (lkb R w0 n).2) 0 (R, S, c, G, b, T, L)) := by
  show am_X 5 214 0 [.ref 120, .int (iI n), .int (iI w0), .int (iI q0)] [] h _
  obtain ⟨⟨lk, pa, sp, fi, se, o⟩, a1, ⟨g2, a2, e2⟩, ⟨g3, a3, e3⟩, a4, ⟨g5, a5⟩, hW, aT, ⟨gC, aC⟩, gB, aB⟩ := a
  have o : Mo h c th lk pa L sp fi se := o
  have a1 : oI h 121 270 R := a1
  have e2 : ∀ k j, 0 ≤ k → k < c → 0 ≤ j → j < 270 → g2 (270 * k + j) = S k j := e2
  have e3 : ∀ (q : Nat) j, q < 2 → b q = 1 → 0 ≤ j → j < 270 → g3 (270 * q + j) = G q j := e3
  have a4 : oA 2 h 124 2 b := a4
  have aT : oI h 130 120 T := aT
  have i : inv R := k.1
  have iS : ∀ k, 0 ≤ k → k < c → inv (S k) := k.2.1
  have hc : 0 ≤ c ∧ c ≤ 14 := k.2.2.1
  have iG : ∀ q : Nat, q < 2 → b q = 1 → inv (G q) := k.2.2.2.1
  have hb : ∀ j, 0 ≤ j → j < 2 → b j = 0 ∨ b j = 1 := k.2.2.2.2.1
  have hL : 0 ≤ L ∧ L ≤ 120 := k.2.2.2.2.2.1
  have hT : ∀ j, 0 ≤ j → j < L → 0 ≤ T j ∧ T j ≤ 255 := k.2.2.2.2.2.2
  clear k
  have F : fr (fun x => 120 ≤ x ∧ x ≤ 132) h h := fr_rf
  have hq : inI q0 := ⟨by omega, by omega⟩
  refine ax_aload_n f214_0 rfl ?_
  refine ax_iconst f214_1 ?_
  refine ax_putfO f214_2 o rfl rfl rfl rfl (fun hp1 o1 r1 => ?_)
  have o : Mo hp1 _ _ _ _ _ _ _ _ := o1
  have a1 := a1.fr r1 (by omega)
  have a2 := a2.fr r1 (by omega)
  have a3 := a3.fr r1 (by omega)
  have a4 := a4.fr r1 (by omega)
  have a5 := a5.fr r1 (by omega)
  have hW := hW.mv r1 (by omega) (by omega) (by omega) (by omega)
  have aT := aT.fr r1 (by omega)
  have aC := aC.fr r1 (by omega)
  have aB := aB.fr r1 (by omega)
  have F := F.trans (r1.mono fun x e => by omega)
  refine ax_aload_n f214_5 rfl ?_
  refine ax_iload_n f214_6 rfl ?_
  refine ax_cvI (rest := []) f214_7 o rfl rfl rfl rfl rfl rfl rfl rfl (c_152 o a1 i.ff i.b12 hn) ?_
  intro _ e_
  obtain rfl := e_.symm
  clear e_
  refine ax_nmI (b2i_t h0) ?_
  refine ax_if_ne f214_10 rfl ⟨by omega, by omega⟩ (fun q10 => ?_) (fun q10 => absurd q10 (by omega))
  refine ax_iload_n f214_19 rfl ?_
  refine ax_iconst f214_20 ?_
  refine ax_iconst f214_21 ?_
  refine ax_csI (rest := []) f214_22 (Or.inl rfl) rfl rfl rfl rfl rfl rfl (c_145 hw ⟨by decide, by decide⟩ ⟨by decide, by decide⟩) ?_
  intro _ e_
  obtain rfl := e_.symm
  clear e_
  refine ax_nmI (b2i_t (show 0 ≤ w0 ∧ w0 ≤ 2 by omega)) ?_
  refine ax_if_eq f214_25 rfl ⟨by omega, by omega⟩ (fun q25 => absurd q25 (by omega)) (fun q25 => ?_)
  refine ax_iload_n f214_28 rfl ?_
  refine ax_iconst f214_29 ?_
  refine ax_iconst f214_30 ?_
  refine ax_csI (rest := []) f214_31 (Or.inl rfl) rfl rfl rfl rfl rfl rfl (c_145 hq ⟨by decide, by decide⟩ ⟨by decide, by decide⟩) ?_
  intro _ e_
  obtain rfl := e_.symm
  clear e_
  refine ax_nmI (b2i_t h2) ?_
  refine ax_if_eq f214_34 rfl ⟨by omega, by omega⟩ (fun q34 => absurd q34 (by omega)) (fun q34 => ?_)
  refine ax_aload_n f214_37 rfl ?_
  refine ax_iload_n f214_38 rfl ?_
  refine ax_iload_n f214_39 rfl ?_
  refine ax_iload_n f214_40 rfl ?_
  refine ax_cvI (rest := []) f214_41 o rfl rfl rfl rfl rfl rfl rfl rfl (c_213 o a1 i (show w0 = 0 ∨ w0 = 1 ∨ w0 = 2 by omega) h0 h2) ?_
  intro _ e_
  obtain rfl := e_.symm
  clear e_
  refine ax_goto f214_44 rfl ?_
  refine ax_ireturn f214_52 rfl rfl ?_
  exact ⟨rI_of rfl, ⟨⟨_, _, _, _, _, o⟩, a1, ⟨_, a2, e2⟩, ⟨_, a3, e3⟩, a4, ⟨_, a5⟩, hW, aT, ⟨_, aC⟩, ⟨_, aB⟩⟩, F⟩
theorem m_217_1 {h : am_H} {R : Int → Int} {S : Int → Int → Int} {c : Int} {G : Nat → Int → Int} {b : Int → Int} {T : Int → Int} {L th : Int} (a : Mdl h (R, S, c, G, b, T, L) th) (k : okS (R, S, c, G, b, T, L)) {n : Int} (hn : inI n) (h0 : ¬ (0 ≤ n ∧ n < blk R)) : am_X 4 217 0 (am_ent 217 [.ref 120, .int (iI n)]) [] h (Mot h (0) 1 (R, S, c, G, b, T, L)) := by
  show am_X 4 217 0 [.ref 120, .int (iI n)] [] h _
  obtain ⟨⟨lk, pa, sp, fi, se, o⟩, a1, ⟨g2, a2, e2⟩, ⟨g3, a3, e3⟩, a4, ⟨g5, a5⟩, hW, aT, ⟨gC, aC⟩, gB, aB⟩ := a
  have o : Mo h c th lk pa L sp fi se := o
  have a1 : oI h 121 270 R := a1
  have e2 : ∀ k j, 0 ≤ k → k < c → 0 ≤ j → j < 270 → g2 (270 * k + j) = S k j := e2
  have e3 : ∀ (q : Nat) j, q < 2 → b q = 1 → 0 ≤ j → j < 270 → g3 (270 * q + j) = G q j := e3
  have a4 : oA 2 h 124 2 b := a4
  have aT : oI h 130 120 T := aT
  have i : inv R := k.1
  have iS : ∀ k, 0 ≤ k → k < c → inv (S k) := k.2.1
  have hc : 0 ≤ c ∧ c ≤ 14 := k.2.2.1
  have iG : ∀ q : Nat, q < 2 → b q = 1 → inv (G q) := k.2.2.2.1
  have hb : ∀ j, 0 ≤ j → j < 2 → b j = 0 ∨ b j = 1 := k.2.2.2.2.1
  have hL : 0 ≤ L ∧ L ≤ 120 := k.2.2.2.2.2.1
  have hT : ∀ j, 0 ≤ j → j < L → 0 ≤ T j ∧ T j ≤ 255 := k.2.2.2.2.2.2
  clear k
  have F : fr (fun x => 120 ≤ x ∧ x ≤ 132) h h := fr_rf
  refine ax_aload_n f217_0 rfl ?_
  refine ax_iconst f217_1 ?_
  refine ax_putfO f217_2 o rfl rfl rfl rfl (fun hp1 o1 r1 => ?_)
  have o : Mo hp1 _ _ _ _ _ _ _ _ := o1
  have a1 := a1.fr r1 (by omega)
  have a2 := a2.fr r1 (by omega)
  have a3 := a3.fr r1 (by omega)
  have a4 := a4.fr r1 (by omega)
  have a5 := a5.fr r1 (by omega)
  have hW := hW.mv r1 (by omega) (by omega) (by omega) (by omega)
  have aT := aT.fr r1 (by omega)
  have aC := aC.fr r1 (by omega)
  have aB := aB.fr r1 (by omega)
  have F := F.trans (r1.mono fun x e => by omega)
  refine ax_aload_n f217_5 rfl ?_
  refine ax_iload_n f217_6 rfl ?_
  refine ax_cvI (rest := []) f217_7 o rfl rfl rfl rfl rfl rfl rfl rfl (c_152 o a1 i.ff i.b12 hn) ?_
  intro _ e_
  obtain rfl := e_.symm
  clear e_
  refine ax_nmI (b2i_f h0) ?_
  refine ax_if_eq f217_10 rfl ⟨by omega, by omega⟩ (fun q10 => ?_) (fun q10 => absurd q10 (by omega))
  refine ax_aload_n f217_32 rfl ?_
  refine ax_iconst f217_33 ?_
  refine ax_cvI (rest := []) f217_34 o rfl rfl rfl rfl rfl rfl rfl rfl (c_144 o) ?_
  rintro h8 ⟨o8, f8⟩
  have o : Mo h8 _ _ _ _ _ _ _ _ := o8
  have a1 := a1.fr f8 (by omega)
  have a2 := a2.fr f8 (by omega)
  have a3 := a3.fr f8 (by omega)
  have a4 := a4.fr f8 (by omega)
  have a5 := a5.fr f8 (by omega)
  have hW := hW.mv f8 (by omega) (by omega) (by omega) (by omega)
  have aT := aT.fr f8 (by omega)
  have aC := aC.fr f8 (by omega)
  have aB := aB.fr f8 (by omega)
  have F := F.trans (f8.mono fun x e => by omega)
  refine ax_ireturn f217_37 rfl rfl ?_
  exact ⟨rI_of rfl, ⟨⟨_, _, _, _, _, o⟩, a1, ⟨_, a2, e2⟩, ⟨_, a3, e3⟩, a4, ⟨_, a5⟩, hW, aT, ⟨_, aC⟩, ⟨_, aB⟩⟩, F⟩
theorem m_217 {h : am_H} {R : Int → Int} {S : Int → Int → Int} {c : Int} {G : Nat → Int → Int} {b : Int → Int} {T : Int → Int} {L th : Int} (a : Mdl h (R, S, c, G, b, T, L) th) (k : okS (R, S, c, G, b, T, L)) {n : Int} (hn : inI n) (h0 : 0 ≤ n ∧ n < blk R) : am_X 4 217 0 (am_ent 217 [.ref 120, .int (iI n)]) [] h (Mot h (lc (vl R 2) 48 (fro R n) (fro R (n + 1))) 0 (R, S, c, G, b, T, L)) := by
  show am_X 4 217 0 [.ref 120, .int (iI n)] [] h _
  obtain ⟨⟨lk, pa, sp, fi, se, o⟩, a1, ⟨g2, a2, e2⟩, ⟨g3, a3, e3⟩, a4, ⟨g5, a5⟩, hW, aT, ⟨gC, aC⟩, gB, aB⟩ := a
  have o : Mo h c th lk pa L sp fi se := o
  have a1 : oI h 121 270 R := a1
  have e2 : ∀ k j, 0 ≤ k → k < c → 0 ≤ j → j < 270 → g2 (270 * k + j) = S k j := e2
  have e3 : ∀ (q : Nat) j, q < 2 → b q = 1 → 0 ≤ j → j < 270 → g3 (270 * q + j) = G q j := e3
  have a4 : oA 2 h 124 2 b := a4
  have aT : oI h 130 120 T := aT
  have i : inv R := k.1
  have iS : ∀ k, 0 ≤ k → k < c → inv (S k) := k.2.1
  have hc : 0 ≤ c ∧ c ≤ 14 := k.2.2.1
  have iG : ∀ q : Nat, q < 2 → b q = 1 → inv (G q) := k.2.2.2.1
  have hb : ∀ j, 0 ≤ j → j < 2 → b j = 0 ∨ b j = 1 := k.2.2.2.2.1
  have hL : 0 ≤ L ∧ L ≤ 120 := k.2.2.2.2.2.1
  have hT : ∀ j, 0 ≤ j → j < L → 0 ≤ T j ∧ T j ≤ 255 := k.2.2.2.2.2.2
  clear k
  have F : fr (fun x => 120 ≤ x ∧ x ≤ 132) h h := fr_rf
  obtain ⟨b1, b2, b3⟩ := fro_lt i.ff h0.1 h0.2
  have b4 := (fro_sp i.ff n).1
  have b5 := (fro_sp i.ff (n + 1)).2.1
  have hb12 := i.b12
  refine ax_aload_n f217_0 rfl ?_
  refine ax_iconst f217_1 ?_
  refine ax_putfO f217_2 o rfl rfl rfl rfl (fun hp1 o1 r1 => ?_)
  have o : Mo hp1 _ _ _ _ _ _ _ _ := o1
  have a1 := a1.fr r1 (by omega)
  have a2 := a2.fr r1 (by omega)
  have a3 := a3.fr r1 (by omega)
  have a4 := a4.fr r1 (by omega)
  have a5 := a5.fr r1 (by omega)
  have hW := hW.mv r1 (by omega) (by omega) (by omega) (by omega)
  have aT := aT.fr r1 (by omega)
  have aC := aC.fr r1 (by omega)
  have aB := aB.fr r1 (by omega)
  have F := F.trans (r1.mono fun x e => by omega)
  refine ax_aload_n f217_5 rfl ?_
  refine ax_iload_n f217_6 rfl ?_
  refine ax_cvI (rest := []) f217_7 o rfl rfl rfl rfl rfl rfl rfl rfl (c_152 o a1 i.ff i.b12 hn) ?_
  intro _ e_
  obtain rfl := e_.symm
  clear e_
  refine ax_nmI (b2i_t h0) ?_
  refine ax_if_eq f217_10 rfl ⟨by omega, by omega⟩ (fun q10 => absurd q10 (by omega)) (fun q10 => ?_)
  refine ax_aload_n f217_13 rfl ?_
  refine ax_aload_n f217_14 rfl ?_
  refine ax_iload_n f217_15 rfl ?_
  refine ax_cvI (rest := [_]) f217_16 o rfl rfl rfl rfl rfl rfl rfl rfl (c_154 o a1 i.ff i.b12 ⟨by omega, by omega⟩) ?_
  intro _ e_
  obtain rfl := e_.symm
  clear e_
  refine ax_aload_n f217_19 rfl ?_
  refine ax_iload_n f217_20 rfl ?_
  refine ax_iconst f217_21 ?_
  refine ax_iadd f217_22 ?_
  refine ax_cvI (rest := [_, _]) f217_23 o rfl rfl rfl rfl rfl rfl rfl rfl (c_154 o a1 i.ff i.b12 ⟨by omega, by omega⟩) ?_
  intro _ e_
  obtain rfl := e_.symm
  clear e_
  refine ax_cvI (rest := []) f217_26 o rfl rfl rfl rfl rfl rfl rfl rfl (c_216 o a1 aC (vl_ival i 2) b4 b3 b5) ?_
  rintro h8 ⟨⟨gC8, aC8⟩, f8⟩
  have o : Mo h8 _ _ _ _ _ _ _ _ := f8.at (q := 120) (by omega) o
  have a1 := a1.fr f8 (by omega)
  have a2 := a2.fr f8 (by omega)
  have a3 := a3.fr f8 (by omega)
  have a4 := a4.fr f8 (by omega)
  have a5 := a5.fr f8 (by omega)
  have hW := hW.mv f8 (by omega) (by omega) (by omega) (by omega)
  have aT := aT.fr f8 (by omega)
  have aC := aC8
  have aB := aB.fr f8 (by omega)
  have F := F.trans (f8.mono fun x e => by omega)
  refine ax_goto f217_29 rfl ?_
  refine ax_ireturn f217_37 rfl rfl ?_
  exact ⟨rI_of rfl, ⟨⟨_, _, _, _, _, o⟩, a1, ⟨_, a2, e2⟩, ⟨_, a3, e3⟩, a4, ⟨_, a5⟩, hW, aT, ⟨_, aC⟩, ⟨_, aB⟩⟩, F⟩
theorem m_218_1 {h : am_H} {R : Int → Int} {S : Int → Int → Int} {c : Int} {G : Nat → Int → Int} {b : Int → Int} {T : Int → Int} {L th : Int} (a : Mdl h (R, S, c, G, b, T, L) th) (k : okS (R, S, c, G, b, T, L)) {n : Int} (hn : inI n) (h0 : ¬ (1 ≤ n ∧ n ≤ 11)) : am_X 2 218 0 (am_ent 218 [.ref 120, .int (iI n)]) [] h (Mot h (0) 1 (R, S, c, G, b, T, L)) := by
  show am_X 2 218 0 [.ref 120, .int (iI n)] [] h _
  obtain ⟨⟨lk, pa, sp, fi, se, o⟩, a1, ⟨g2, a2, e2⟩, ⟨g3, a3, e3⟩, a4, ⟨g5, a5⟩, hW, aT, ⟨gC, aC⟩, gB, aB⟩ := a
  have o : Mo h c th lk pa L sp fi se := o
  have a1 : oI h 121 270 R := a1
  have e2 : ∀ k j, 0 ≤ k → k < c → 0 ≤ j → j < 270 → g2 (270 * k + j) = S k j := e2
  have e3 : ∀ (q : Nat) j, q < 2 → b q = 1 → 0 ≤ j → j < 270 → g3 (270 * q + j) = G q j := e3
  have a4 : oA 2 h 124 2 b := a4
  have aT : oI h 130 120 T := aT
  have i : inv R := k.1
  have iS : ∀ k, 0 ≤ k → k < c → inv (S k) := k.2.1
  have hc : 0 ≤ c ∧ c ≤ 14 := k.2.2.1
  have iG : ∀ q : Nat, q < 2 → b q = 1 → inv (G q) := k.2.2.2.1
  have hb : ∀ j, 0 ≤ j → j < 2 → b j = 0 ∨ b j = 1 := k.2.2.2.2.1
  have hL : 0 ≤ L ∧ L ≤ 120 := k.2.2.2.2.2.1
  have hT : ∀ j, 0 ≤ j → j < L → 0 ≤ T j ∧ T j ≤ 255 := k.2.2.2.2.2.2
  clear k
  have F : fr (fun x => 120 ≤ x ∧ x ≤ 132) h h := fr_rf
  refine ax_aload_n f218_0 rfl ?_
  refine ax_iconst f218_1 ?_
  refine ax_putfO f218_2 o rfl rfl rfl rfl (fun hp1 o1 r1 => ?_)
  have o : Mo hp1 _ _ _ _ _ _ _ _ := o1
  have a1 := a1.fr r1 (by omega)
  have a2 := a2.fr r1 (by omega)
  have a3 := a3.fr r1 (by omega)
  have a4 := a4.fr r1 (by omega)
  have a5 := a5.fr r1 (by omega)
  have hW := hW.mv r1 (by omega) (by omega) (by omega) (by omega)
  have aT := aT.fr r1 (by omega)
  have aC := aC.fr r1 (by omega)
  have aB := aB.fr r1 (by omega)
  have F := F.trans (r1.mono fun x e => by omega)
  refine ax_iload_n f218_5 rfl ?_
  refine ax_iconst f218_6 ?_
  refine ax_bipush f218_7 ?_
  refine ax_csI (rest := []) f218_9 (Or.inl rfl) rfl rfl rfl rfl rfl rfl (c_145 hn ⟨by decide, by decide⟩ ⟨by decide, by decide⟩) ?_
  intro _ e_
  obtain rfl := e_.symm
  clear e_
  refine ax_nmI (b2i_f h0) ?_
  refine ax_if_eq f218_12 rfl ⟨by omega, by omega⟩ (fun q12 => ?_) (fun q12 => absurd q12 (by omega))
  refine ax_aload_n f218_23 rfl ?_
  refine ax_iconst f218_24 ?_
  refine ax_cvI (rest := []) f218_25 o rfl rfl rfl rfl rfl rfl rfl rfl (c_144 o) ?_
  rintro h8 ⟨o8, f8⟩
  have o : Mo h8 _ _ _ _ _ _ _ _ := o8
  have a1 := a1.fr f8 (by omega)
  have a2 := a2.fr f8 (by omega)
  have a3 := a3.fr f8 (by omega)
  have a4 := a4.fr f8 (by omega)
  have a5 := a5.fr f8 (by omega)
  have hW := hW.mv f8 (by omega) (by omega) (by omega) (by omega)
  have aT := aT.fr f8 (by omega)
  have aC := aC.fr f8 (by omega)
  have aB := aB.fr f8 (by omega)
  have F := F.trans (f8.mono fun x e => by omega)
  refine ax_ireturn f218_28 rfl rfl ?_
  exact ⟨rI_of rfl, ⟨⟨_, _, _, _, _, o⟩, a1, ⟨_, a2, e2⟩, ⟨_, a3, e3⟩, a4, ⟨_, a5⟩, hW, aT, ⟨_, aC⟩, ⟨_, aB⟩⟩, F⟩
theorem m_218 {h : am_H} {R : Int → Int} {S : Int → Int → Int} {c : Int} {G : Nat → Int → Int} {b : Int → Int} {T : Int → Int} {L th : Int} (a : Mdl h (R, S, c, G, b, T, L) th) (k : okS (R, S, c, G, b, T, L)) {n : Int} (hn : inI n) (h0 : 1 ≤ n ∧ n ≤ 11) : am_X 2 218 0 (am_ent 218 [.ref 120, .int (iI n)]) [] h (Mot h (bal R n) 0 (R, S, c, G, b, T, L)) := by
  show am_X 2 218 0 [.ref 120, .int (iI n)] [] h _
  obtain ⟨⟨lk, pa, sp, fi, se, o⟩, a1, ⟨g2, a2, e2⟩, ⟨g3, a3, e3⟩, a4, ⟨g5, a5⟩, hW, aT, ⟨gC, aC⟩, gB, aB⟩ := a
  have o : Mo h c th lk pa L sp fi se := o
  have a1 : oI h 121 270 R := a1
  have e2 : ∀ k j, 0 ≤ k → k < c → 0 ≤ j → j < 270 → g2 (270 * k + j) = S k j := e2
  have e3 : ∀ (q : Nat) j, q < 2 → b q = 1 → 0 ≤ j → j < 270 → g3 (270 * q + j) = G q j := e3
  have a4 : oA 2 h 124 2 b := a4
  have aT : oI h 130 120 T := aT
  have i : inv R := k.1
  have iS : ∀ k, 0 ≤ k → k < c → inv (S k) := k.2.1
  have hc : 0 ≤ c ∧ c ≤ 14 := k.2.2.1
  have iG : ∀ q : Nat, q < 2 → b q = 1 → inv (G q) := k.2.2.2.1
  have hb : ∀ j, 0 ≤ j → j < 2 → b j = 0 ∨ b j = 1 := k.2.2.2.2.1
  have hL : 0 ≤ L ∧ L ≤ 120 := k.2.2.2.2.2.1
  have hT : ∀ j, 0 ≤ j → j < L → 0 ≤ T j ∧ T j ≤ 255 := k.2.2.2.2.2.2
  clear k
  have F : fr (fun x => 120 ≤ x ∧ x ≤ 132) h h := fr_rf
  refine ax_aload_n f218_0 rfl ?_
  refine ax_iconst f218_1 ?_
  refine ax_putfO f218_2 o rfl rfl rfl rfl (fun hp1 o1 r1 => ?_)
  have o : Mo hp1 _ _ _ _ _ _ _ _ := o1
  have a1 := a1.fr r1 (by omega)
  have a2 := a2.fr r1 (by omega)
  have a3 := a3.fr r1 (by omega)
  have a4 := a4.fr r1 (by omega)
  have a5 := a5.fr r1 (by omega)
  have hW := hW.mv r1 (by omega) (by omega) (by omega) (by omega)
  have aT := aT.fr r1 (by omega)
  have aC := aC.fr r1 (by omega)
  have aB := aB.fr r1 (by omega)
  have F := F.trans (r1.mono fun x e => by omega)
  refine ax_iload_n f218_5 rfl ?_
  refine ax_iconst f218_6 ?_
  refine ax_bipush f218_7 ?_
  refine ax_csI (rest := []) f218_9 (Or.inl rfl) rfl rfl rfl rfl rfl rfl (c_145 hn ⟨by decide, by decide⟩ ⟨by decide, by decide⟩) ?_
  intro _ e_
  obtain rfl := e_.symm
  clear e_
  refine ax_nmI (b2i_t h0) ?_
  refine ax_if_eq f218_12 rfl ⟨by omega, by omega⟩ (fun q12 => absurd q12 (by omega)) (fun q12 => ?_)
  refine ax_aload_n f218_15 rfl ?_
  refine ax_iload_n f218_16 rfl ?_
  refine ax_cvI (rest := []) f218_17 o rfl rfl rfl rfl rfl rfl rfl rfl (c_169 o a1 i.1.1 (by omega)) ?_
  intro _ e_
  obtain rfl := e_.symm
  clear e_
  refine ax_goto f218_20 rfl ?_
  refine ax_ireturn f218_28 rfl rfl ?_
  exact ⟨rI_of rfl, ⟨⟨_, _, _, _, _, o⟩, a1, ⟨_, a2, e2⟩, ⟨_, a3, e3⟩, a4, ⟨_, a5⟩, hW, aT, ⟨_, aC⟩, ⟨_, aB⟩⟩, F⟩
theorem m_220_1 {h : am_H} {R : Int → Int} {S : Int → Int → Int} {c : Int} {G : Nat → Int → Int} {b : Int → Int} {T : Int → Int} {L th : Int} (a : Mdl h (R, S, c, G, b, T, L) th) (k : okS (R, S, c, G, b, T, L)) {n : Int} (hn : inI n) (h0 : ¬ (0 ≤ n ∧ n < blk R)) : am_X 3 220 0 (am_ent 220 [.ref 120, .int (iI n)]) [] h (Mot h (0) 1 (R, S, c, G, b, T, L)) := by
  show am_X 3 220 0 [.ref 120, .int (iI n)] [] h _
  obtain ⟨⟨lk, pa, sp, fi, se, o⟩, a1, ⟨g2, a2, e2⟩, ⟨g3, a3, e3⟩, a4, ⟨g5, a5⟩, hW, aT, ⟨gC, aC⟩, gB, aB⟩ := a
  have o : Mo h c th lk pa L sp fi se := o
  have a1 : oI h 121 270 R := a1
  have e2 : ∀ k j, 0 ≤ k → k < c → 0 ≤ j → j < 270 → g2 (270 * k + j) = S k j := e2
  have e3 : ∀ (q : Nat) j, q < 2 → b q = 1 → 0 ≤ j → j < 270 → g3 (270 * q + j) = G q j := e3
  have a4 : oA 2 h 124 2 b := a4
  have aT : oI h 130 120 T := aT
  have i : inv R := k.1
  have iS : ∀ k, 0 ≤ k → k < c → inv (S k) := k.2.1
  have hc : 0 ≤ c ∧ c ≤ 14 := k.2.2.1
  have iG : ∀ q : Nat, q < 2 → b q = 1 → inv (G q) := k.2.2.2.1
  have hb : ∀ j, 0 ≤ j → j < 2 → b j = 0 ∨ b j = 1 := k.2.2.2.2.1
  have hL : 0 ≤ L ∧ L ≤ 120 := k.2.2.2.2.2.1
  have hT : ∀ j, 0 ≤ j → j < L → 0 ≤ T j ∧ T j ≤ 255 := k.2.2.2.2.2.2
  clear k
  have F : fr (fun x => 120 ≤ x ∧ x ≤ 132) h h := fr_rf
  refine ax_aload_n f220_0 rfl ?_
  refine ax_iconst f220_1 ?_
  refine ax_putfO f220_2 o rfl rfl rfl rfl (fun hp1 o1 r1 => ?_)
  have o : Mo hp1 _ _ _ _ _ _ _ _ := o1
  have a1 := a1.fr r1 (by omega)
  have a2 := a2.fr r1 (by omega)
  have a3 := a3.fr r1 (by omega)
  have a4 := a4.fr r1 (by omega)
  have a5 := a5.fr r1 (by omega)
  have hW := hW.mv r1 (by omega) (by omega) (by omega) (by omega)
  have aT := aT.fr r1 (by omega)
  have aC := aC.fr r1 (by omega)
  have aB := aB.fr r1 (by omega)
  have F := F.trans (r1.mono fun x e => by omega)
  refine ax_aload_n f220_5 rfl ?_
  refine ax_iload_n f220_6 rfl ?_
  refine ax_cvI (rest := []) f220_7 o rfl rfl rfl rfl rfl rfl rfl rfl (c_152 o a1 i.ff i.b12 hn) ?_
  intro _ e_
  obtain rfl := e_.symm
  clear e_
  refine ax_nmI (b2i_f h0) ?_
  refine ax_if_ne f220_10 rfl ⟨by omega, by omega⟩ (fun q10 => absurd q10 (by omega)) (fun q10 => ?_)
  refine ax_aload_n f220_13 rfl ?_
  refine ax_iconst f220_14 ?_
  refine ax_cvI (rest := []) f220_15 o rfl rfl rfl rfl rfl rfl rfl rfl (c_144 o) ?_
  rintro h8 ⟨o8, f8⟩
  have o : Mo h8 _ _ _ _ _ _ _ _ := o8
  have a1 := a1.fr f8 (by omega)
  have a2 := a2.fr f8 (by omega)
  have a3 := a3.fr f8 (by omega)
  have a4 := a4.fr f8 (by omega)
  have a5 := a5.fr f8 (by omega)
  have hW := hW.mv f8 (by omega) (by omega) (by omega) (by omega)
  have aT := aT.fr f8 (by omega)
  have aC := aC.fr f8 (by omega)
  have aB := aB.fr f8 (by omega)
  have F := F.trans (f8.mono fun x e => by omega)
  refine ax_ireturn f220_18 rfl rfl ?_
  exact ⟨rI_of rfl, ⟨⟨_, _, _, _, _, o⟩, a1, ⟨_, a2, e2⟩, ⟨_, a3, e3⟩, a4, ⟨_, a5⟩, hW, aT, ⟨_, aC⟩, ⟨_, aB⟩⟩, F⟩
theorem m_220_2 {h : am_H} {R : Int → Int} {S : Int → Int → Int} {c : Int} {G : Nat → Int → Int} {b : Int → Int} {T : Int → Int} {L th : Int} (a : Mdl h (R, S, c, G, b, T, L) th) (k : okS (R, S, c, G, b, T, L)) {n : Int} (hn : inI n) (h0 : 0 ≤ n ∧ n < blk R) (h1 : R 192 = 0) : am_X 3 220 0 (am_ent 220 [.ref 120, .int (iI n)]) [] h (Mot h (0) 2 (R, S, c, G, b, T, L)) := by
  show am_X 3 220 0 [.ref 120, .int (iI n)] [] h _
  obtain ⟨⟨lk, pa, sp, fi, se, o⟩, a1, ⟨g2, a2, e2⟩, ⟨g3, a3, e3⟩, a4, ⟨g5, a5⟩, hW, aT, ⟨gC, aC⟩, gB, aB⟩ := a
  have o : Mo h c th lk pa L sp fi se := o
  have a1 : oI h 121 270 R := a1
  have e2 : ∀ k j, 0 ≤ k → k < c → 0 ≤ j → j < 270 → g2 (270 * k + j) = S k j := e2
  have e3 : ∀ (q : Nat) j, q < 2 → b q = 1 → 0 ≤ j → j < 270 → g3 (270 * q + j) = G q j := e3
  have a4 : oA 2 h 124 2 b := a4
  have aT : oI h 130 120 T := aT
  have i : inv R := k.1
  have iS : ∀ k, 0 ≤ k → k < c → inv (S k) := k.2.1
  have hc : 0 ≤ c ∧ c ≤ 14 := k.2.2.1
  have iG : ∀ q : Nat, q < 2 → b q = 1 → inv (G q) := k.2.2.2.1
  have hb : ∀ j, 0 ≤ j → j < 2 → b j = 0 ∨ b j = 1 := k.2.2.2.2.1
  have hL : 0 ≤ L ∧ L ≤ 120 := k.2.2.2.2.2.1
  have hT : ∀ j, 0 ≤ j → j < L → 0 ≤ T j ∧ T j ≤ 255 := k.2.2.2.2.2.2
  clear k
  have F : fr (fun x => 120 ≤ x ∧ x ≤ 132) h h := fr_rf
  refine ax_aload_n f220_0 rfl ?_
  refine ax_iconst f220_1 ?_
  refine ax_putfO f220_2 o rfl rfl rfl rfl (fun hp1 o1 r1 => ?_)
  have o : Mo hp1 _ _ _ _ _ _ _ _ := o1
  have a1 := a1.fr r1 (by omega)
  have a2 := a2.fr r1 (by omega)
  have a3 := a3.fr r1 (by omega)
  have a4 := a4.fr r1 (by omega)
  have a5 := a5.fr r1 (by omega)
  have hW := hW.mv r1 (by omega) (by omega) (by omega) (by omega)
  have aT := aT.fr r1 (by omega)
  have aC := aC.fr r1 (by omega)
  have aB := aB.fr r1 (by omega)
  have F := F.trans (r1.mono fun x e => by omega)
  refine ax_aload_n f220_5 rfl ?_
  refine ax_iload_n f220_6 rfl ?_
  refine ax_cvI (rest := []) f220_7 o rfl rfl rfl rfl rfl rfl rfl rfl (c_152 o a1 i.ff i.b12 hn) ?_
  intro _ e_
  obtain rfl := e_.symm
  clear e_
  refine ax_nmI (b2i_t h0) ?_
  refine ax_if_ne f220_10 rfl ⟨by omega, by omega⟩ (fun q10 => ?_) (fun q10 => absurd q10 (by omega))
  refine ax_aload_n f220_19 rfl ?_
  refine ax_getf f220_20 o rfl ?_
  refine ax_sipush f220_23 ?_
  refine ax_ialdO f220_26 (by decide) a1 (by omega) (by omega) rfl ?_
  refine ax_if_ne f220_27 rfl ⟨by omega, by omega⟩ (fun q27 => absurd q27 (by omega)) (fun q27 => ?_)
  refine ax_aload_n f220_30 rfl ?_
  refine ax_iconst f220_31 ?_
  refine ax_cvI (rest := []) f220_32 o rfl rfl rfl rfl rfl rfl rfl rfl (c_144 o) ?_
  rintro h8 ⟨o8, f8⟩
  have o : Mo h8 _ _ _ _ _ _ _ _ := o8
  have a1 := a1.fr f8 (by omega)
  have a2 := a2.fr f8 (by omega)
  have a3 := a3.fr f8 (by omega)
  have a4 := a4.fr f8 (by omega)
  have a5 := a5.fr f8 (by omega)
  have hW := hW.mv f8 (by omega) (by omega) (by omega) (by omega)
  have aT := aT.fr f8 (by omega)
  have aC := aC.fr f8 (by omega)
  have aB := aB.fr f8 (by omega)
  have F := F.trans (f8.mono fun x e => by omega)
  refine ax_ireturn f220_35 rfl rfl ?_
  exact ⟨rI_of rfl, ⟨⟨_, _, _, _, _, o⟩, a1, ⟨_, a2, e2⟩, ⟨_, a3, e3⟩, a4, ⟨_, a5⟩, hW, aT, ⟨_, aC⟩, ⟨_, aB⟩⟩, F⟩
theorem m_220 {h : am_H} {R : Int → Int} {S : Int → Int → Int} {c : Int} {G : Nat → Int → Int} {b : Int → Int} {T : Int → Int} {L th : Int} (a : Mdl h (R, S, c, G, b, T, L) th) (k : okS (R, S, c, G, b, T, L)) {n : Int} (hn : inI n) (h0 : 0 ≤ n ∧ n < blk R) (h1 : ¬ R 192 = 0) : am_X 3 220 0 (am_ent 220 [.ref 120, .int (iI n)]) [] h (Mot h (csm R (fro R n) (fro R (n + 1)) (R (193 + n))) 0 (R, S, c, G, b, T, L)) := by
  show am_X 3 220 0 [.ref 120, .int (iI n)] [] h _
  obtain ⟨⟨lk, pa, sp, fi, se, o⟩, a1, ⟨g2, a2, e2⟩, ⟨g3, a3, e3⟩, a4, ⟨g5, a5⟩, hW, aT, ⟨gC, aC⟩, gB, aB⟩ := a
  have o : Mo h c th lk pa L sp fi se := o
  have a1 : oI h 121 270 R := a1
  have e2 : ∀ k j, 0 ≤ k → k < c → 0 ≤ j → j < 270 → g2 (270 * k + j) = S k j := e2
  have e3 : ∀ (q : Nat) j, q < 2 → b q = 1 → 0 ≤ j → j < 270 → g3 (270 * q + j) = G q j := e3
  have a4 : oA 2 h 124 2 b := a4
  have aT : oI h 130 120 T := aT
  have i : inv R := k.1
  have iS : ∀ k, 0 ≤ k → k < c → inv (S k) := k.2.1
  have hc : 0 ≤ c ∧ c ≤ 14 := k.2.2.1
  have iG : ∀ q : Nat, q < 2 → b q = 1 → inv (G q) := k.2.2.2.1
  have hb : ∀ j, 0 ≤ j → j < 2 → b j = 0 ∨ b j = 1 := k.2.2.2.2.1
  have hL : 0 ≤ L ∧ L ≤ 120 := k.2.2.2.2.2.1
  have hT : ∀ j, 0 ≤ j → j < L → 0 ≤ T j ∧ T j ≤ 255 := k.2.2.2.2.2.2
  clear k
  have F : fr (fun x => 120 ≤ x ∧ x ≤ 132) h h := fr_rf
  have htd := i.td
  obtain ⟨b1, b2, b3⟩ := fro_lt i.ff h0.1 h0.2
  have b4 := (fro_sp i.ff n).1
  have b5 := (fro_sp i.ff (n + 1)).2.1
  have hb12 := i.b12
  have hsu := i.su h0.1 (by omega)
  have c01 := csm_01 i.1.1 (v := R (193 + n)) b4 (by omega) b5
  refine ax_aload_n f220_0 rfl ?_
  refine ax_iconst f220_1 ?_
  refine ax_putfO f220_2 o rfl rfl rfl rfl (fun hp1 o1 r1 => ?_)
  have o : Mo hp1 _ _ _ _ _ _ _ _ := o1
  have a1 := a1.fr r1 (by omega)
  have a2 := a2.fr r1 (by omega)
  have a3 := a3.fr r1 (by omega)
  have a4 := a4.fr r1 (by omega)
  have a5 := a5.fr r1 (by omega)
  have hW := hW.mv r1 (by omega) (by omega) (by omega) (by omega)
  have aT := aT.fr r1 (by omega)
  have aC := aC.fr r1 (by omega)
  have aB := aB.fr r1 (by omega)
  have F := F.trans (r1.mono fun x e => by omega)
  refine ax_aload_n f220_5 rfl ?_
  refine ax_iload_n f220_6 rfl ?_
  refine ax_cvI (rest := []) f220_7 o rfl rfl rfl rfl rfl rfl rfl rfl (c_152 o a1 i.ff i.b12 hn) ?_
  intro _ e_
  obtain rfl := e_.symm
  clear e_
  refine ax_nmI (b2i_t h0) ?_
  refine ax_if_ne f220_10 rfl ⟨by omega, by omega⟩ (fun q10 => ?_) (fun q10 => absurd q10 (by omega))
  refine ax_aload_n f220_19 rfl ?_
  refine ax_getf f220_20 o rfl ?_
  refine ax_sipush f220_23 ?_
  refine ax_ialdO f220_26 (by decide) a1 (by omega) (by omega) rfl ?_
  refine ax_if_ne f220_27 rfl ⟨by omega, by omega⟩ (fun q27 => ?_) (fun q27 => absurd q27 (by omega))
  refine ax_aload_n f220_36 rfl ?_
  refine ax_aload_n f220_37 rfl ?_
  refine ax_iload_n f220_38 rfl ?_
  refine ax_cvI (rest := [_]) f220_39 o rfl rfl rfl rfl rfl rfl rfl rfl (c_154 o a1 i.ff i.b12 ⟨by omega, by omega⟩) ?_
  intro _ e_
  obtain rfl := e_.symm
  clear e_
  refine ax_aload_n f220_42 rfl ?_
  refine ax_iload_n f220_43 rfl ?_
  refine ax_iconst f220_44 ?_
  refine ax_iadd f220_45 ?_
  refine ax_cvI (rest := [_, _]) f220_46 o rfl rfl rfl rfl rfl rfl rfl rfl (c_154 o a1 i.ff i.b12 ⟨by omega, by omega⟩) ?_
  intro _ e_
  obtain rfl := e_.symm
  clear e_
  refine ax_aload_n f220_49 rfl ?_
  refine ax_getf f220_50 o rfl ?_
  refine ax_sipush f220_53 ?_
  refine ax_iload_n f220_56 rfl ?_
  refine ax_iadd f220_57 ?_
  refine ax_ialdO f220_58 (by decide) a1 (by omega) (by omega) rfl ?_
  refine ax_cvI (rest := []) f220_59 o rfl rfl rfl rfl rfl rfl rfl rfl (c_219 o a1 i b4 b3 b5 ⟨by omega, by omega⟩ aB) ?_
  rintro h8 ⟨⟨gB8, aB8⟩, f8⟩
  have o : Mo h8 _ _ _ _ _ _ _ _ := f8.at (q := 120) (by omega) o
  have a1 := a1.fr f8 (by omega)
  have a2 := a2.fr f8 (by omega)
  have a3 := a3.fr f8 (by omega)
  have a4 := a4.fr f8 (by omega)
  have a5 := a5.fr f8 (by omega)
  have hW := hW.mv f8 (by omega) (by omega) (by omega) (by omega)
  have aT := aT.fr f8 (by omega)
  have aC := aC.fr f8 (by omega)
  have aB := aB8
  have F := F.trans (f8.mono fun x e => by omega)
  refine ax_if_eq f220_62 rfl ⟨by omega, by omega⟩ (fun q62 => ?_) (fun q62 => ?_)
  · refine ax_iconst f220_69 ?_
    refine ax_ireturn f220_70 rfl rfl ?_
    exact ⟨rI_of (by omega), ⟨⟨_, _, _, _, _, o⟩, a1, ⟨_, a2, e2⟩, ⟨_, a3, e3⟩, a4, ⟨_, a5⟩, hW, aT, ⟨_, aC⟩, ⟨_, aB⟩⟩, F⟩
  · refine ax_iconst f220_65 ?_
    refine ax_goto f220_66 rfl ?_
    refine ax_ireturn f220_70 rfl rfl ?_
    exact ⟨rI_of (by omega), ⟨⟨_, _, _, _, _, o⟩, a1, ⟨_, a2, e2⟩, ⟨_, a3, e3⟩, a4, ⟨_, a5⟩, hW, aT, ⟨_, aC⟩, ⟨_, aB⟩⟩, F⟩
theorem lp_221 {d : Nat} {h : am_H} {Q : am_R → am_H → Prop} {R : Int → Int} {c th lk pa le sp fi se : Int} (o : Mo h c th lk pa le sp fi se) (a1 : oI h 121 270 R) (i : inv R) (ht : R 192 = 1) : ∀ (n : Nat) (w best most : Int) {x4 : Value}, w + n = blk R → 0 ≤ w ∧ 0 ≤ most ∧ most ≤ 10000 → (Q (.inl (some (.int (iI (fal R n w best most))))) h) → am_X (d + 2) 221 11 [.ref 120, .int (iI best), .int (iI most), .int (iI w), x4] [] h Q
  | 0, w, best, most, x4, h1, h2, k => by
    have hb12 := i.b12
    refine ax_iload_n f221_11 rfl ?_
    refine ax_aload_n f221_12 rfl ?_
    refine ax_cvI (rest := [_]) f221_13 o rfl rfl rfl rfl rfl rfl rfl rfl (c_151 o a1) ?_
    intro _ e_
    obtain rfl := e_.symm
    clear e_
    refine ax_icmp_ge f221_16 rfl ⟨by omega, by omega⟩ ⟨by omega, by omega⟩ (fun q16 => ?_) (fun q16 => absurd q16 (by omega))
    refine ax_iload_n f221_106 rfl ?_
    refine ax_ireturn f221_107 rfl rfl ?_
    exact k
  | n + 1, w, best, most, x4, h1, h2, k => by
    obtain ⟨b1, b2, b3⟩ := fro_lt i.ff h2.1 (by omega)
    have b4 := (fro_sp i.ff w).1
    have b5 := (fro_sp i.ff (w + 1)).2.1
    have hb12 := i.b12
    have hsu := i.su h2.1 (by omega)
    have hfl := fld_in i.1.1 b4 (show fro R w ≤ fro R (w + 1) by omega) b5
    have hbk := bok_in i.1.1 b4 (show fro R w ≤ fro R (w + 1) by omega) b5
    refine ax_iload_n f221_11 rfl ?_
    refine ax_aload_n f221_12 rfl ?_
    refine ax_cvI (rest := [_]) f221_13 o rfl rfl rfl rfl rfl rfl rfl rfl (c_151 o a1) ?_
    intro _ e_
    obtain rfl := e_.symm
    clear e_
    refine ax_icmp_ge f221_16 rfl ⟨by omega, by omega⟩ ⟨by omega, by omega⟩ (fun q16 => absurd q16 (by omega)) (fun q16 => ?_)
    refine ax_aload_n f221_19 rfl ?_
    refine ax_getf f221_20 o rfl ?_
    refine ax_sipush f221_23 ?_
    refine ax_ialdO f221_26 (by decide) a1 (by omega) (by omega) rfl ?_
    refine ax_iconst f221_27 ?_
    refine ax_icmp_ne f221_28 rfl ⟨by omega, by omega⟩ ⟨by omega, by omega⟩ (fun q28 => absurd q28 (by omega)) (fun q28 => ?_)
    refine ax_aload_n f221_31 rfl ?_
    refine ax_getf f221_32 o rfl ?_
    refine ax_sipush f221_35 ?_
    refine ax_iload_n f221_38 rfl ?_
    refine ax_iadd f221_39 ?_
    refine ax_ialdO f221_40 (by decide) a1 (by omega) (by omega) rfl ?_
    refine ax_aload_n f221_41 rfl ?_
    refine ax_aload_n f221_42 rfl ?_
    refine ax_iload_n f221_43 rfl ?_
    refine ax_cvI (rest := [_, _]) f221_44 o rfl rfl rfl rfl rfl rfl rfl rfl (c_154 o a1 i.ff i.b12 ⟨by omega, by omega⟩) ?_
    intro _ e_
    obtain rfl := e_.symm
    clear e_
    refine ax_aload_n f221_47 rfl ?_
    refine ax_iload_n f221_48 rfl ?_
    refine ax_iconst f221_49 ?_
    refine ax_iadd f221_50 ?_
    refine ax_cvI (rest := [_, _, _]) f221_51 o rfl rfl rfl rfl rfl rfl rfl rfl (c_154 o a1 i.ff i.b12 ⟨by omega, by omega⟩) ?_
    intro _ e_
    obtain rfl := e_.symm
    clear e_
    refine ax_cvI (rest := [_]) f221_54 o rfl rfl rfl rfl rfl rfl rfl rfl (c_157 o a1 i.1.2.1 b4 (by omega) b5) ?_
    intro _ e_
    obtain rfl := e_.symm
    clear e_
    refine ax_isub f221_57 ?_
    refine ax_istore (ls' := [_, _, _, _, _]) f221_58 (Nat.le_of_ble_eq_true rfl) rfl ?_
    refine ax_iload f221_60 rfl ?_
    refine ax_if_ge f221_62 rfl ⟨by omega, by omega⟩ (fun q62 => ?_) (fun q62 => ?_)
    · have eo : R (193 + w) - fld R (fro R w) (fro R (w + 1)) = ofZ R w := by unfold ofZ; rw [if_pos (by omega)]
      have ob : 0 ≤ ofZ R w ∧ ofZ R w ≤ 10000 := by omega
      refine ax_iload f221_71 rfl ?_
      rw [eo]
      refine ax_istore (ls' := [_, _, _, _, _]) f221_73 (Nat.le_of_ble_eq_true rfl) rfl ?_
      refine ax_iload f221_75 rfl ?_
      refine ax_iload_n f221_77 rfl ?_
      refine ax_icmp_le f221_78 rfl ⟨by omega, by omega⟩ ⟨by omega, by omega⟩ (fun q78 => ?_) (fun q78 => ?_)
      · refine ax_iload_n f221_85 rfl ?_
        refine ax_istore_n (ls' := [_, _, _, _, _]) f221_86 (Nat.le_of_ble_eq_true rfl) rfl ?_
        refine ax_iload f221_87 rfl ?_
        refine ax_iload_n f221_89 rfl ?_
        refine ax_icmp_le f221_90 rfl ⟨by omega, by omega⟩ ⟨by omega, by omega⟩ (fun q90 => ?_) (fun q90 => absurd q90 (by omega))
        refine ax_iload_n f221_98 rfl ?_
        refine ax_istore_n (ls' := [_, _, _, _, _]) f221_99 (Nat.le_of_ble_eq_true rfl) rfl ?_
        refine ax_iinc (ls' := [_, _, _, _, _]) f221_100 rfl (Nat.le_of_ble_eq_true rfl) rfl ?_
        refine ax_goto f221_103 rfl ?_
        refine lp_221 o a1 i ht n (w + 1) best most (x4 := .int (iI (ofZ R w))) (by omega) (by omega) ?_
        have e : fal R (n + 1) w best most = fal R n (w + 1) best most := by
          show (if _ then _ else _) = _
          rw [if_neg (by omega)]
        rw [e] at k
        exact k
      · refine ax_iload_n f221_81 rfl ?_
        refine ax_goto f221_82 rfl ?_
        refine ax_istore_n (ls' := [_, _, _, _, _]) f221_86 (Nat.le_of_ble_eq_true rfl) rfl ?_
        refine ax_iload f221_87 rfl ?_
        refine ax_iload_n f221_89 rfl ?_
        refine ax_icmp_le f221_90 rfl ⟨by omega, by omega⟩ ⟨by omega, by omega⟩ (fun q90 => absurd q90 (by omega)) (fun q90 => ?_)
        refine ax_iload f221_93 rfl ?_
        refine ax_goto f221_95 rfl ?_
        refine ax_istore_n (ls' := [_, _, _, _, _]) f221_99 (Nat.le_of_ble_eq_true rfl) rfl ?_
        refine ax_iinc (ls' := [_, _, _, _, _]) f221_100 rfl (Nat.le_of_ble_eq_true rfl) rfl ?_
        refine ax_goto f221_103 rfl ?_
        refine lp_221 o a1 i ht n (w + 1) w (ofZ R w) (x4 := .int (iI (ofZ R w))) (by omega) (by omega) ?_
        have e : fal R (n + 1) w best most = fal R n (w + 1) w (ofZ R w) := by
          show (if _ then _ else _) = _
          rw [if_pos (by omega)]
        rw [e] at k
        exact k
    · have eo : -(R (193 + w) - fld R (fro R w) (fro R (w + 1))) = ofZ R w := by unfold ofZ; rw [if_neg (by omega)]
      have ob : 0 ≤ ofZ R w ∧ ofZ R w ≤ 10000 := by omega
      refine ax_iload f221_65 rfl ?_
      refine ax_ineg f221_67 ?_
      refine ax_goto f221_68 rfl ?_
      rw [eo]
      refine ax_istore (ls' := [_, _, _, _, _]) f221_73 (Nat.le_of_ble_eq_true rfl) rfl ?_
      refine ax_iload f221_75 rfl ?_
      refine ax_iload_n f221_77 rfl ?_
      refine ax_icmp_le f221_78 rfl ⟨by omega, by omega⟩ ⟨by omega, by omega⟩ (fun q78 => ?_) (fun q78 => ?_)
      · refine ax_iload_n f221_85 rfl ?_
        refine ax_istore_n (ls' := [_, _, _, _, _]) f221_86 (Nat.le_of_ble_eq_true rfl) rfl ?_
        refine ax_iload f221_87 rfl ?_
        refine ax_iload_n f221_89 rfl ?_
        refine ax_icmp_le f221_90 rfl ⟨by omega, by omega⟩ ⟨by omega, by omega⟩ (fun q90 => ?_) (fun q90 => absurd q90 (by omega))
        refine ax_iload_n f221_98 rfl ?_
        refine ax_istore_n (ls' := [_, _, _, _, _]) f221_99 (Nat.le_of_ble_eq_true rfl) rfl ?_
        refine ax_iinc (ls' := [_, _, _, _, _]) f221_100 rfl (Nat.le_of_ble_eq_true rfl) rfl ?_
        refine ax_goto f221_103 rfl ?_
        refine lp_221 o a1 i ht n (w + 1) best most (x4 := .int (iI (ofZ R w))) (by omega) (by omega) ?_
        have e : fal R (n + 1) w best most = fal R n (w + 1) best most := by
          show (if _ then _ else _) = _
          rw [if_neg (by omega)]
        rw [e] at k
        exact k
      · refine ax_iload_n f221_81 rfl ?_
        refine ax_goto f221_82 rfl ?_
        refine ax_istore_n (ls' := [_, _, _, _, _]) f221_86 (Nat.le_of_ble_eq_true rfl) rfl ?_
        refine ax_iload f221_87 rfl ?_
        refine ax_iload_n f221_89 rfl ?_
        refine ax_icmp_le f221_90 rfl ⟨by omega, by omega⟩ ⟨by omega, by omega⟩ (fun q90 => absurd q90 (by omega)) (fun q90 => ?_)
        refine ax_iload f221_93 rfl ?_
        refine ax_goto f221_95 rfl ?_
        refine ax_istore_n (ls' := [_, _, _, _, _]) f221_99 (Nat.le_of_ble_eq_true rfl) rfl ?_
        refine ax_iinc (ls' := [_, _, _, _, _]) f221_100 rfl (Nat.le_of_ble_eq_true rfl) rfl ?_
        refine ax_goto f221_103 rfl ?_
        refine lp_221 o a1 i ht n (w + 1) w (ofZ R w) (x4 := .int (iI (ofZ R w))) (by omega) (by omega) ?_
        have e : fal R (n + 1) w best most = fal R n (w + 1) w (ofZ R w) := by
          show (if _ then _ else _) = _
          rw [if_pos (by omega)]
        rw [e] at k
        exact k
theorem m_221_n {h : am_H} {R : Int → Int} {S : Int → Int → Int} {c : Int} {G : Nat → Int → Int} {b : Int → Int} {T : Int → Int} {L th : Int} (a : Mdl h (R, S, c, G, b, T, L) th) (k : okS (R, S, c, G, b, T, L)) (h0 : ¬ R 192 = 1) : am_X 2 221 0 (am_ent 221 [.ref 120]) [] h (Mot h (far R) 0 (R, S, c, G, b, T, L)) := by
  show am_X 2 221 0 [.ref 120, am_u, am_u, am_u, am_u] [] h _
  obtain ⟨⟨lk, pa, sp, fi, se, o⟩, a1, ⟨g2, a2, e2⟩, ⟨g3, a3, e3⟩, a4, ⟨g5, a5⟩, hW, aT, ⟨gC, aC⟩, gB, aB⟩ := a
  have o : Mo h c th lk pa L sp fi se := o
  have a1 : oI h 121 270 R := a1
  have e2 : ∀ k j, 0 ≤ k → k < c → 0 ≤ j → j < 270 → g2 (270 * k + j) = S k j := e2
  have e3 : ∀ (q : Nat) j, q < 2 → b q = 1 → 0 ≤ j → j < 270 → g3 (270 * q + j) = G q j := e3
  have a4 : oA 2 h 124 2 b := a4
  have aT : oI h 130 120 T := aT
  have i : inv R := k.1
  have iS : ∀ k, 0 ≤ k → k < c → inv (S k) := k.2.1
  have hc : 0 ≤ c ∧ c ≤ 14 := k.2.2.1
  have iG : ∀ q : Nat, q < 2 → b q = 1 → inv (G q) := k.2.2.2.1
  have hb : ∀ j, 0 ≤ j → j < 2 → b j = 0 ∨ b j = 1 := k.2.2.2.2.1
  have hL : 0 ≤ L ∧ L ≤ 120 := k.2.2.2.2.2.1
  have hT : ∀ j, 0 ≤ j → j < L → 0 ≤ T j ∧ T j ≤ 255 := k.2.2.2.2.2.2
  clear k
  have F : fr (fun x => 120 ≤ x ∧ x ≤ 132) h h := fr_rf
  have hb12 := i.b12
  have hb1 := blk_1 i.ff
  have htd := i.td
  refine ax_aload_n f221_0 rfl ?_
  refine ax_iconst f221_1 ?_
  refine ax_putfO f221_2 o rfl rfl rfl rfl (fun hp1 o1 r1 => ?_)
  have o : Mo hp1 _ _ _ _ _ _ _ _ := o1
  have a1 := a1.fr r1 (by omega)
  have a2 := a2.fr r1 (by omega)
  have a3 := a3.fr r1 (by omega)
  have a4 := a4.fr r1 (by omega)
  have a5 := a5.fr r1 (by omega)
  have hW := hW.mv r1 (by omega) (by omega) (by omega) (by omega)
  have aT := aT.fr r1 (by omega)
  have aC := aC.fr r1 (by omega)
  have aB := aB.fr r1 (by omega)
  have F := F.trans (r1.mono fun x e => by omega)
  refine ax_iconst f221_5 ?_
  refine ax_istore_n (ls' := [_, _, _, _, _]) f221_6 (Nat.le_of_ble_eq_true rfl) rfl ?_
  refine ax_iconst f221_7 ?_
  refine ax_istore_n (ls' := [_, _, _, _, _]) f221_8 (Nat.le_of_ble_eq_true rfl) rfl ?_
  refine ax_iconst f221_9 ?_
  refine ax_istore_n (ls' := [_, _, _, _, _]) f221_10 (Nat.le_of_ble_eq_true rfl) rfl ?_
  refine ax_iload_n f221_11 rfl ?_
  refine ax_aload_n f221_12 rfl ?_
  refine ax_cvI (rest := [_]) f221_13 o rfl rfl rfl rfl rfl rfl rfl rfl (c_151 o a1) ?_
  intro _ e_
  obtain rfl := e_.symm
  clear e_
  refine ax_icmp_ge f221_16 rfl ⟨by omega, by omega⟩ ⟨by omega, by omega⟩ (fun q16 => absurd q16 (by omega)) (fun q16 => ?_)
  refine ax_aload_n f221_19 rfl ?_
  refine ax_getf f221_20 o rfl ?_
  refine ax_sipush f221_23 ?_
  refine ax_ialdO f221_26 (by decide) a1 (by omega) (by omega) rfl ?_
  refine ax_iconst f221_27 ?_
  refine ax_icmp_ne f221_28 rfl ⟨by omega, by omega⟩ ⟨by omega, by omega⟩ (fun q28 => ?_) (fun q28 => absurd q28 (by omega))
  refine ax_iload_n f221_106 rfl ?_
  refine ax_ireturn f221_107 rfl rfl ?_
  exact ⟨rI_of (by unfold far; rw [if_neg h0]), ⟨⟨_, _, _, _, _, o⟩, a1, ⟨_, a2, e2⟩, ⟨_, a3, e3⟩, a4, ⟨_, a5⟩, hW, aT, ⟨_, aC⟩, ⟨_, aB⟩⟩, F⟩
theorem m_221_y {h : am_H} {R : Int → Int} {S : Int → Int → Int} {c : Int} {G : Nat → Int → Int} {b : Int → Int} {T : Int → Int} {L th : Int} (a : Mdl h (R, S, c, G, b, T, L) th) (k : okS (R, S, c, G, b, T, L)) (h0 : R 192 = 1) : am_X 2 221 0 (am_ent 221 [.ref 120]) [] h (Mot h (far R) 0 (R, S, c, G, b, T, L)) := by
  show am_X 2 221 0 [.ref 120, am_u, am_u, am_u, am_u] [] h _
  obtain ⟨⟨lk, pa, sp, fi, se, o⟩, a1, ⟨g2, a2, e2⟩, ⟨g3, a3, e3⟩, a4, ⟨g5, a5⟩, hW, aT, ⟨gC, aC⟩, gB, aB⟩ := a
  have o : Mo h c th lk pa L sp fi se := o
  have a1 : oI h 121 270 R := a1
  have e2 : ∀ k j, 0 ≤ k → k < c → 0 ≤ j → j < 270 → g2 (270 * k + j) = S k j := e2
  have e3 : ∀ (q : Nat) j, q < 2 → b q = 1 → 0 ≤ j → j < 270 → g3 (270 * q + j) = G q j := e3
  have a4 : oA 2 h 124 2 b := a4
  have aT : oI h 130 120 T := aT
  have i : inv R := k.1
  have iS : ∀ k, 0 ≤ k → k < c → inv (S k) := k.2.1
  have hc : 0 ≤ c ∧ c ≤ 14 := k.2.2.1
  have iG : ∀ q : Nat, q < 2 → b q = 1 → inv (G q) := k.2.2.2.1
  have hb : ∀ j, 0 ≤ j → j < 2 → b j = 0 ∨ b j = 1 := k.2.2.2.2.1
  have hL : 0 ≤ L ∧ L ≤ 120 := k.2.2.2.2.2.1
  have hT : ∀ j, 0 ≤ j → j < L → 0 ≤ T j ∧ T j ≤ 255 := k.2.2.2.2.2.2
  clear k
  have F : fr (fun x => 120 ≤ x ∧ x ≤ 132) h h := fr_rf
  have hb12 := i.b12
  have hb1 := blk_1 i.ff
  refine ax_aload_n f221_0 rfl ?_
  refine ax_iconst f221_1 ?_
  refine ax_putfO f221_2 o rfl rfl rfl rfl (fun hp1 o1 r1 => ?_)
  have o : Mo hp1 _ _ _ _ _ _ _ _ := o1
  have a1 := a1.fr r1 (by omega)
  have a2 := a2.fr r1 (by omega)
  have a3 := a3.fr r1 (by omega)
  have a4 := a4.fr r1 (by omega)
  have a5 := a5.fr r1 (by omega)
  have hW := hW.mv r1 (by omega) (by omega) (by omega) (by omega)
  have aT := aT.fr r1 (by omega)
  have aC := aC.fr r1 (by omega)
  have aB := aB.fr r1 (by omega)
  have F := F.trans (r1.mono fun x e => by omega)
  refine ax_iconst f221_5 ?_
  refine ax_istore_n (ls' := [_, _, _, _, _]) f221_6 (Nat.le_of_ble_eq_true rfl) rfl ?_
  refine ax_iconst f221_7 ?_
  refine ax_istore_n (ls' := [_, _, _, _, _]) f221_8 (Nat.le_of_ble_eq_true rfl) rfl ?_
  refine ax_iconst f221_9 ?_
  refine ax_istore_n (ls' := [_, _, _, _, _]) f221_10 (Nat.le_of_ble_eq_true rfl) rfl ?_
  refine lp_221 (d := 0) o a1 i h0 (blk R).toNat 0 (-1) 0 (x4 := am_u) (by omega) (by omega) ?_
  exact ⟨rI_of (by unfold far; rw [if_pos h0]), ⟨⟨_, _, _, _, _, o⟩, a1, ⟨_, a2, e2⟩, ⟨_, a3, e3⟩, a4, ⟨_, a5⟩, hW, aT, ⟨_, aC⟩, ⟨_, aB⟩⟩, F⟩
theorem m_225_1 {h : am_H} {R : Int → Int} {S : Int → Int → Int} {c : Int} {G : Nat → Int → Int} {b : Int → Int} {T : Int → Int} {L th : Int} (a : Mdl h (R, S, c, G, b, T, L) th) (k : okS (R, S, c, G, b, T, L)) {n : Int} {x : Int64} (hn : inI n) (h0 : ¬ (1 ≤ n ∧ n ≤ 3)) : am_X 11 225 0 (am_ent 225 [.ref 120, .int (iI n), .long x]) [] h (Mot h (0) 1 (R, S, c, G, b, T, L)) := by
  show am_X 11 225 0 [.ref 120, .int (iI n), .long x, am_u, am_u, am_u, am_u] [] h _
  obtain ⟨⟨lk, pa, sp, fi, se, o⟩, a1, ⟨g2, a2, e2⟩, ⟨g3, a3, e3⟩, a4, ⟨g5, a5⟩, hW, aT, ⟨gC, aC⟩, gB, aB⟩ := a
  have o : Mo h c th lk pa L sp fi se := o
  have a1 : oI h 121 270 R := a1
  have e2 : ∀ k j, 0 ≤ k → k < c → 0 ≤ j → j < 270 → g2 (270 * k + j) = S k j := e2
  have e3 : ∀ (q : Nat) j, q < 2 → b q = 1 → 0 ≤ j → j < 270 → g3 (270 * q + j) = G q j := e3
  have a4 : oA 2 h 124 2 b := a4
  have aT : oI h 130 120 T := aT
  have i : inv R := k.1
  have iS : ∀ k, 0 ≤ k → k < c → inv (S k) := k.2.1
  have hc : 0 ≤ c ∧ c ≤ 14 := k.2.2.1
  have iG : ∀ q : Nat, q < 2 → b q = 1 → inv (G q) := k.2.2.2.1
  have hb : ∀ j, 0 ≤ j → j < 2 → b j = 0 ∨ b j = 1 := k.2.2.2.2.1
  have hL : 0 ≤ L ∧ L ≤ 120 := k.2.2.2.2.2.1
  have hT : ∀ j, 0 ≤ j → j < L → 0 ≤ T j ∧ T j ≤ 255 := k.2.2.2.2.2.2
  clear k
  have F : fr (fun x => 120 ≤ x ∧ x ≤ 132) h h := fr_rf
  obtain ⟨hn1, hn2⟩ := id hn
  refine ax_aload_n f225_0 rfl ?_
  refine ax_iconst f225_1 ?_
  refine ax_putfO f225_2 o rfl rfl rfl rfl (fun hp1 o1 r1 => ?_)
  have o : Mo hp1 _ _ _ _ _ _ _ _ := o1
  have a1 := a1.fr r1 (by omega)
  have a2 := a2.fr r1 (by omega)
  have a3 := a3.fr r1 (by omega)
  have a4 := a4.fr r1 (by omega)
  have a5 := a5.fr r1 (by omega)
  have hW := hW.mv r1 (by omega) (by omega) (by omega) (by omega)
  have aT := aT.fr r1 (by omega)
  have aC := aC.fr r1 (by omega)
  have aB := aB.fr r1 (by omega)
  have F := F.trans (r1.mono fun x e => by omega)
  refine ax_iload_n f225_5 rfl ?_
  refine ax_iconst f225_6 ?_
  refine ax_icmp_ne f225_7 rfl ⟨by omega, by omega⟩ ⟨by omega, by omega⟩ (fun q7 => ?_) (fun q7 => ?_)
  · refine ax_iload_n f225_16 rfl ?_
    refine ax_iconst f225_17 ?_
    refine ax_icmp_ne f225_18 rfl ⟨by omega, by omega⟩ ⟨by omega, by omega⟩ (fun q18 => ?_) (fun q18 => ?_)
    · refine ax_ldc2_w f225_27 ?_
      refine ax_lstore (ls' := [_, _, _, _, _, _, _]) f225_30 (Nat.le_of_ble_eq_true rfl) rfl ?_
      refine ax_iload_n f225_32 rfl ?_
      refine ax_iconst f225_33 ?_
      refine ax_iconst f225_34 ?_
      refine ax_csI (rest := []) f225_35 (Or.inl rfl) rfl rfl rfl rfl rfl rfl (c_145 hn ⟨by decide, by decide⟩ ⟨by decide, by decide⟩) ?_
      intro _ e_
      obtain rfl := e_.symm
      clear e_
      refine ax_nmI (b2i_f h0) ?_
      refine ax_if_eq f225_38 rfl ⟨by omega, by omega⟩ (fun q38 => ?_) (fun q38 => absurd q38 (by omega))
      refine ax_aload_n f225_54 rfl ?_
      refine ax_iconst f225_55 ?_
      refine ax_cvI (rest := []) f225_56 o rfl rfl rfl rfl rfl rfl rfl rfl (c_144 o) ?_
      rintro h8 ⟨o8, f8⟩
      have o : Mo h8 _ _ _ _ _ _ _ _ := o8
      have a1 := a1.fr f8 (by omega)
      have a2 := a2.fr f8 (by omega)
      have a3 := a3.fr f8 (by omega)
      have a4 := a4.fr f8 (by omega)
      have a5 := a5.fr f8 (by omega)
      have hW := hW.mv f8 (by omega) (by omega) (by omega) (by omega)
      have aT := aT.fr f8 (by omega)
      have aC := aC.fr f8 (by omega)
      have aB := aB.fr f8 (by omega)
      have F := F.trans (f8.mono fun x e => by omega)
      refine ax_ireturn f225_59 rfl rfl ?_
      exact ⟨rI_of rfl, ⟨⟨_, _, _, _, _, o⟩, a1, ⟨_, a2, e2⟩, ⟨_, a3, e3⟩, a4, ⟨_, a5⟩, hW, aT, ⟨_, aC⟩, ⟨_, aB⟩⟩, F⟩
    · refine ax_ldc2_w f225_21 ?_
      refine ax_goto f225_24 rfl ?_
      refine ax_lstore (ls' := [_, _, _, _, _, _, _]) f225_30 (Nat.le_of_ble_eq_true rfl) rfl ?_
      refine ax_iload_n f225_32 rfl ?_
      refine ax_iconst f225_33 ?_
      refine ax_iconst f225_34 ?_
      refine ax_csI (rest := []) f225_35 (Or.inl rfl) rfl rfl rfl rfl rfl rfl (c_145 hn ⟨by decide, by decide⟩ ⟨by decide, by decide⟩) ?_
      intro _ e_
      obtain rfl := e_.symm
      clear e_
      refine ax_nmI (b2i_f h0) ?_
      refine ax_if_eq f225_38 rfl ⟨by omega, by omega⟩ (fun q38 => ?_) (fun q38 => absurd q38 (by omega))
      refine ax_aload_n f225_54 rfl ?_
      refine ax_iconst f225_55 ?_
      refine ax_cvI (rest := []) f225_56 o rfl rfl rfl rfl rfl rfl rfl rfl (c_144 o) ?_
      rintro h8 ⟨o8, f8⟩
      have o : Mo h8 _ _ _ _ _ _ _ _ := o8
      have a1 := a1.fr f8 (by omega)
      have a2 := a2.fr f8 (by omega)
      have a3 := a3.fr f8 (by omega)
      have a4 := a4.fr f8 (by omega)
      have a5 := a5.fr f8 (by omega)
      have hW := hW.mv f8 (by omega) (by omega) (by omega) (by omega)
      have aT := aT.fr f8 (by omega)
      have aC := aC.fr f8 (by omega)
      have aB := aB.fr f8 (by omega)
      have F := F.trans (f8.mono fun x e => by omega)
      refine ax_ireturn f225_59 rfl rfl ?_
      exact ⟨rI_of rfl, ⟨⟨_, _, _, _, _, o⟩, a1, ⟨_, a2, e2⟩, ⟨_, a3, e3⟩, a4, ⟨_, a5⟩, hW, aT, ⟨_, aC⟩, ⟨_, aB⟩⟩, F⟩
  · refine ax_ldc2_w f225_10 ?_
    refine ax_goto f225_13 rfl ?_
    refine ax_lstore (ls' := [_, _, _, _, _, _, _]) f225_30 (Nat.le_of_ble_eq_true rfl) rfl ?_
    refine ax_iload_n f225_32 rfl ?_
    refine ax_iconst f225_33 ?_
    refine ax_iconst f225_34 ?_
    refine ax_csI (rest := []) f225_35 (Or.inl rfl) rfl rfl rfl rfl rfl rfl (c_145 hn ⟨by decide, by decide⟩ ⟨by decide, by decide⟩) ?_
    intro _ e_
    obtain rfl := e_.symm
    clear e_
    refine ax_nmI (b2i_f h0) ?_
    refine ax_if_eq f225_38 rfl ⟨by omega, by omega⟩ (fun q38 => ?_) (fun q38 => absurd q38 (by omega))
    refine ax_aload_n f225_54 rfl ?_
    refine ax_iconst f225_55 ?_
    refine ax_cvI (rest := []) f225_56 o rfl rfl rfl rfl rfl rfl rfl rfl (c_144 o) ?_
    rintro h8 ⟨o8, f8⟩
    have o : Mo h8 _ _ _ _ _ _ _ _ := o8
    have a1 := a1.fr f8 (by omega)
    have a2 := a2.fr f8 (by omega)
    have a3 := a3.fr f8 (by omega)
    have a4 := a4.fr f8 (by omega)
    have a5 := a5.fr f8 (by omega)
    have hW := hW.mv f8 (by omega) (by omega) (by omega) (by omega)
    have aT := aT.fr f8 (by omega)
    have aC := aC.fr f8 (by omega)
    have aB := aB.fr f8 (by omega)
    have F := F.trans (f8.mono fun x e => by omega)
    refine ax_ireturn f225_59 rfl rfl ?_
    exact ⟨rI_of rfl, ⟨⟨_, _, _, _, _, o⟩, a1, ⟨_, a2, e2⟩, ⟨_, a3, e3⟩, a4, ⟨_, a5⟩, hW, aT, ⟨_, aC⟩, ⟨_, aB⟩⟩, F⟩
theorem m_225_2 {h : am_H} {R : Int → Int} {S : Int → Int → Int} {c : Int} {G : Nat → Int → Int} {b : Int → Int} {T : Int → Int} {L th : Int} (a : Mdl h (R, S, c, G, b, T, L) th) (k : okS (R, S, c, G, b, T, L)) {n : Int} {x : Int64} (h0 : 1 ≤ n ∧ n ≤ 3) (h1 : ¬ (0 ≤ x.toInt ∧ x.toInt < ((100000 ^ n.toNat : Nat) : Int))) : am_X 11 225 0 (am_ent 225 [.ref 120, .int (iI n), .long x]) [] h (Mot h (0) 1 (R, S, c, G, b, T, L)) := by
  show am_X 11 225 0 [.ref 120, .int (iI n), .long x, am_u, am_u, am_u, am_u] [] h _
  obtain ⟨⟨lk, pa, sp, fi, se, o⟩, a1, ⟨g2, a2, e2⟩, ⟨g3, a3, e3⟩, a4, ⟨g5, a5⟩, hW, aT, ⟨gC, aC⟩, gB, aB⟩ := a
  have o : Mo h c th lk pa L sp fi se := o
  have a1 : oI h 121 270 R := a1
  have e2 : ∀ k j, 0 ≤ k → k < c → 0 ≤ j → j < 270 → g2 (270 * k + j) = S k j := e2
  have e3 : ∀ (q : Nat) j, q < 2 → b q = 1 → 0 ≤ j → j < 270 → g3 (270 * q + j) = G q j := e3
  have a4 : oA 2 h 124 2 b := a4
  have aT : oI h 130 120 T := aT
  have i : inv R := k.1
  have iS : ∀ k, 0 ≤ k → k < c → inv (S k) := k.2.1
  have hc : 0 ≤ c ∧ c ≤ 14 := k.2.2.1
  have iG : ∀ q : Nat, q < 2 → b q = 1 → inv (G q) := k.2.2.2.1
  have hb : ∀ j, 0 ≤ j → j < 2 → b j = 0 ∨ b j = 1 := k.2.2.2.2.1
  have hL : 0 ≤ L ∧ L ≤ 120 := k.2.2.2.2.2.1
  have hT : ∀ j, 0 ≤ j → j < L → 0 ≤ T j ∧ T j ≤ 255 := k.2.2.2.2.2.2
  clear k
  have F : fr (fun x => 120 ≤ x ∧ x ≤ 132) h h := fr_rf
  have e0 : (Int64.ofNat ((0 : Fin 2) : Nat)).toInt = 0 := by decide
  rcases (show n = 1 ∨ n = 2 ∨ n = 3 by omega) with rfl | rfl | rfl
  · have hn : inI 1 := ⟨by decide, by decide⟩
    have hE : (100000 : Int64).toInt = 100000 := by decide
    
    refine ax_aload_n f225_0 rfl ?_
    refine ax_iconst f225_1 ?_
    refine ax_putfO f225_2 o rfl rfl rfl rfl (fun hp1 o1 r1 => ?_)
    have o : Mo hp1 _ _ _ _ _ _ _ _ := o1
    have a1 := a1.fr r1 (by omega)
    have a2 := a2.fr r1 (by omega)
    have a3 := a3.fr r1 (by omega)
    have a4 := a4.fr r1 (by omega)
    have a5 := a5.fr r1 (by omega)
    have hW := hW.mv r1 (by omega) (by omega) (by omega) (by omega)
    have aT := aT.fr r1 (by omega)
    have aC := aC.fr r1 (by omega)
    have aB := aB.fr r1 (by omega)
    have F := F.trans (r1.mono fun x e => by omega)
    refine ax_iload_n f225_5 rfl ?_
    refine ax_iconst f225_6 ?_
    refine ax_icmp_ne f225_7 rfl ⟨by omega, by omega⟩ ⟨by omega, by omega⟩ (fun q7 => absurd q7 (by omega)) (fun q7 => ?_)
    refine ax_ldc2_w f225_10 ?_
    refine ax_goto f225_13 rfl ?_
    refine ax_lstore (ls' := [_, _, _, _, _, _, _]) f225_30 (Nat.le_of_ble_eq_true rfl) rfl ?_
    refine ax_iload_n f225_32 rfl ?_
    refine ax_iconst f225_33 ?_
    refine ax_iconst f225_34 ?_
    refine ax_csI (rest := []) f225_35 (Or.inl rfl) rfl rfl rfl rfl rfl rfl (c_145 hn ⟨by decide, by decide⟩ ⟨by decide, by decide⟩) ?_
    intro _ e_
    obtain rfl := e_.symm
    clear e_
    refine ax_nmI (b2i_t h0) ?_
    refine ax_if_eq f225_38 rfl ⟨by omega, by omega⟩ (fun q38 => absurd q38 (by omega)) (fun q38 => ?_)
    refine ax_lload_n f225_41 rfl ?_
    refine ax_lconst f225_42 ?_
    refine ax_lcmpz f225_43 ?_
    refine ax_if_lt f225_44 rfl (lcz_in _ _) (fun q44 => ?_) (fun q44 => ?_)
    · refine ax_aload_n f225_54 rfl ?_
      refine ax_iconst f225_55 ?_
      refine ax_cvI (rest := []) f225_56 o rfl rfl rfl rfl rfl rfl rfl rfl (c_144 o) ?_
      rintro h8 ⟨o8, f8⟩
      have o : Mo h8 _ _ _ _ _ _ _ _ := o8
      have a1 := a1.fr f8 (by omega)
      have a2 := a2.fr f8 (by omega)
      have a3 := a3.fr f8 (by omega)
      have a4 := a4.fr f8 (by omega)
      have a5 := a5.fr f8 (by omega)
      have hW := hW.mv f8 (by omega) (by omega) (by omega) (by omega)
      have aT := aT.fr f8 (by omega)
      have aC := aC.fr f8 (by omega)
      have aB := aB.fr f8 (by omega)
      have F := F.trans (f8.mono fun x e => by omega)
      refine ax_ireturn f225_59 rfl rfl ?_
      exact ⟨rI_of rfl, ⟨⟨_, _, _, _, _, o⟩, a1, ⟨_, a2, e2⟩, ⟨_, a3, e3⟩, a4, ⟨_, a5⟩, hW, aT, ⟨_, aC⟩, ⟨_, aB⟩⟩, F⟩
    · refine ax_lload_n f225_47 rfl ?_
      refine ax_lload f225_48 rfl ?_
      refine ax_lcmpz f225_50 ?_
      refine ax_if_lt f225_51 rfl (lcz_in _ _) (fun q51 => ?_) (fun q51 => ?_)
      · exact absurd ⟨by have := mt lcz_lt.mpr q44; rw [e0] at this; omega, by have := lcz_lt.mp q51; rw [hE] at this; exact this⟩ h1
      · refine ax_aload_n f225_54 rfl ?_
        refine ax_iconst f225_55 ?_
        refine ax_cvI (rest := []) f225_56 o rfl rfl rfl rfl rfl rfl rfl rfl (c_144 o) ?_
        rintro h8 ⟨o8, f8⟩
        have o : Mo h8 _ _ _ _ _ _ _ _ := o8
        have a1 := a1.fr f8 (by omega)
        have a2 := a2.fr f8 (by omega)
        have a3 := a3.fr f8 (by omega)
        have a4 := a4.fr f8 (by omega)
        have a5 := a5.fr f8 (by omega)
        have hW := hW.mv f8 (by omega) (by omega) (by omega) (by omega)
        have aT := aT.fr f8 (by omega)
        have aC := aC.fr f8 (by omega)
        have aB := aB.fr f8 (by omega)
        have F := F.trans (f8.mono fun x e => by omega)
        refine ax_ireturn f225_59 rfl rfl ?_
        exact ⟨rI_of rfl, ⟨⟨_, _, _, _, _, o⟩, a1, ⟨_, a2, e2⟩, ⟨_, a3, e3⟩, a4, ⟨_, a5⟩, hW, aT, ⟨_, aC⟩, ⟨_, aB⟩⟩, F⟩
  · have hn : inI 2 := ⟨by decide, by decide⟩
    have hE : (10000000000 : Int64).toInt = 10000000000 := by decide
    
    refine ax_aload_n f225_0 rfl ?_
    refine ax_iconst f225_1 ?_
    refine ax_putfO f225_2 o rfl rfl rfl rfl (fun hp1 o1 r1 => ?_)
    have o : Mo hp1 _ _ _ _ _ _ _ _ := o1
    have a1 := a1.fr r1 (by omega)
    have a2 := a2.fr r1 (by omega)
    have a3 := a3.fr r1 (by omega)
    have a4 := a4.fr r1 (by omega)
    have a5 := a5.fr r1 (by omega)
    have hW := hW.mv r1 (by omega) (by omega) (by omega) (by omega)
    have aT := aT.fr r1 (by omega)
    have aC := aC.fr r1 (by omega)
    have aB := aB.fr r1 (by omega)
    have F := F.trans (r1.mono fun x e => by omega)
    refine ax_iload_n f225_5 rfl ?_
    refine ax_iconst f225_6 ?_
    refine ax_icmp_ne f225_7 rfl ⟨by omega, by omega⟩ ⟨by omega, by omega⟩ (fun q7 => ?_) (fun q7 => absurd q7 (by omega))
    refine ax_iload_n f225_16 rfl ?_
    refine ax_iconst f225_17 ?_
    refine ax_icmp_ne f225_18 rfl ⟨by omega, by omega⟩ ⟨by omega, by omega⟩ (fun q18 => absurd q18 (by omega)) (fun q18 => ?_)
    refine ax_ldc2_w f225_21 ?_
    refine ax_goto f225_24 rfl ?_
    refine ax_lstore (ls' := [_, _, _, _, _, _, _]) f225_30 (Nat.le_of_ble_eq_true rfl) rfl ?_
    refine ax_iload_n f225_32 rfl ?_
    refine ax_iconst f225_33 ?_
    refine ax_iconst f225_34 ?_
    refine ax_csI (rest := []) f225_35 (Or.inl rfl) rfl rfl rfl rfl rfl rfl (c_145 hn ⟨by decide, by decide⟩ ⟨by decide, by decide⟩) ?_
    intro _ e_
    obtain rfl := e_.symm
    clear e_
    refine ax_nmI (b2i_t h0) ?_
    refine ax_if_eq f225_38 rfl ⟨by omega, by omega⟩ (fun q38 => absurd q38 (by omega)) (fun q38 => ?_)
    refine ax_lload_n f225_41 rfl ?_
    refine ax_lconst f225_42 ?_
    refine ax_lcmpz f225_43 ?_
    refine ax_if_lt f225_44 rfl (lcz_in _ _) (fun q44 => ?_) (fun q44 => ?_)
    · refine ax_aload_n f225_54 rfl ?_
      refine ax_iconst f225_55 ?_
      refine ax_cvI (rest := []) f225_56 o rfl rfl rfl rfl rfl rfl rfl rfl (c_144 o) ?_
      rintro h8 ⟨o8, f8⟩
      have o : Mo h8 _ _ _ _ _ _ _ _ := o8
      have a1 := a1.fr f8 (by omega)
      have a2 := a2.fr f8 (by omega)
      have a3 := a3.fr f8 (by omega)
      have a4 := a4.fr f8 (by omega)
      have a5 := a5.fr f8 (by omega)
      have hW := hW.mv f8 (by omega) (by omega) (by omega) (by omega)
      have aT := aT.fr f8 (by omega)
      have aC := aC.fr f8 (by omega)
      have aB := aB.fr f8 (by omega)
      have F := F.trans (f8.mono fun x e => by omega)
      refine ax_ireturn f225_59 rfl rfl ?_
      exact ⟨rI_of rfl, ⟨⟨_, _, _, _, _, o⟩, a1, ⟨_, a2, e2⟩, ⟨_, a3, e3⟩, a4, ⟨_, a5⟩, hW, aT, ⟨_, aC⟩, ⟨_, aB⟩⟩, F⟩
    · refine ax_lload_n f225_47 rfl ?_
      refine ax_lload f225_48 rfl ?_
      refine ax_lcmpz f225_50 ?_
      refine ax_if_lt f225_51 rfl (lcz_in _ _) (fun q51 => ?_) (fun q51 => ?_)
      · exact absurd ⟨by have := mt lcz_lt.mpr q44; rw [e0] at this; omega, by have := lcz_lt.mp q51; rw [hE] at this; exact this⟩ h1
      · refine ax_aload_n f225_54 rfl ?_
        refine ax_iconst f225_55 ?_
        refine ax_cvI (rest := []) f225_56 o rfl rfl rfl rfl rfl rfl rfl rfl (c_144 o) ?_
        rintro h8 ⟨o8, f8⟩
        have o : Mo h8 _ _ _ _ _ _ _ _ := o8
        have a1 := a1.fr f8 (by omega)
        have a2 := a2.fr f8 (by omega)
        have a3 := a3.fr f8 (by omega)
        have a4 := a4.fr f8 (by omega)
        have a5 := a5.fr f8 (by omega)
        have hW := hW.mv f8 (by omega) (by omega) (by omega) (by omega)
        have aT := aT.fr f8 (by omega)
        have aC := aC.fr f8 (by omega)
        have aB := aB.fr f8 (by omega)
        have F := F.trans (f8.mono fun x e => by omega)
        refine ax_ireturn f225_59 rfl rfl ?_
        exact ⟨rI_of rfl, ⟨⟨_, _, _, _, _, o⟩, a1, ⟨_, a2, e2⟩, ⟨_, a3, e3⟩, a4, ⟨_, a5⟩, hW, aT, ⟨_, aC⟩, ⟨_, aB⟩⟩, F⟩
  · have hn : inI 3 := ⟨by decide, by decide⟩
    have hE : (1000000000000000 : Int64).toInt = 1000000000000000 := by decide
    
    refine ax_aload_n f225_0 rfl ?_
    refine ax_iconst f225_1 ?_
    refine ax_putfO f225_2 o rfl rfl rfl rfl (fun hp1 o1 r1 => ?_)
    have o : Mo hp1 _ _ _ _ _ _ _ _ := o1
    have a1 := a1.fr r1 (by omega)
    have a2 := a2.fr r1 (by omega)
    have a3 := a3.fr r1 (by omega)
    have a4 := a4.fr r1 (by omega)
    have a5 := a5.fr r1 (by omega)
    have hW := hW.mv r1 (by omega) (by omega) (by omega) (by omega)
    have aT := aT.fr r1 (by omega)
    have aC := aC.fr r1 (by omega)
    have aB := aB.fr r1 (by omega)
    have F := F.trans (r1.mono fun x e => by omega)
    refine ax_iload_n f225_5 rfl ?_
    refine ax_iconst f225_6 ?_
    refine ax_icmp_ne f225_7 rfl ⟨by omega, by omega⟩ ⟨by omega, by omega⟩ (fun q7 => ?_) (fun q7 => absurd q7 (by omega))
    refine ax_iload_n f225_16 rfl ?_
    refine ax_iconst f225_17 ?_
    refine ax_icmp_ne f225_18 rfl ⟨by omega, by omega⟩ ⟨by omega, by omega⟩ (fun q18 => ?_) (fun q18 => absurd q18 (by omega))
    refine ax_ldc2_w f225_27 ?_
    refine ax_lstore (ls' := [_, _, _, _, _, _, _]) f225_30 (Nat.le_of_ble_eq_true rfl) rfl ?_
    refine ax_iload_n f225_32 rfl ?_
    refine ax_iconst f225_33 ?_
    refine ax_iconst f225_34 ?_
    refine ax_csI (rest := []) f225_35 (Or.inl rfl) rfl rfl rfl rfl rfl rfl (c_145 hn ⟨by decide, by decide⟩ ⟨by decide, by decide⟩) ?_
    intro _ e_
    obtain rfl := e_.symm
    clear e_
    refine ax_nmI (b2i_t h0) ?_
    refine ax_if_eq f225_38 rfl ⟨by omega, by omega⟩ (fun q38 => absurd q38 (by omega)) (fun q38 => ?_)
    refine ax_lload_n f225_41 rfl ?_
    refine ax_lconst f225_42 ?_
    refine ax_lcmpz f225_43 ?_
    refine ax_if_lt f225_44 rfl (lcz_in _ _) (fun q44 => ?_) (fun q44 => ?_)
    · refine ax_aload_n f225_54 rfl ?_
      refine ax_iconst f225_55 ?_
      refine ax_cvI (rest := []) f225_56 o rfl rfl rfl rfl rfl rfl rfl rfl (c_144 o) ?_
      rintro h8 ⟨o8, f8⟩
      have o : Mo h8 _ _ _ _ _ _ _ _ := o8
      have a1 := a1.fr f8 (by omega)
      have a2 := a2.fr f8 (by omega)
      have a3 := a3.fr f8 (by omega)
      have a4 := a4.fr f8 (by omega)
      have a5 := a5.fr f8 (by omega)
      have hW := hW.mv f8 (by omega) (by omega) (by omega) (by omega)
      have aT := aT.fr f8 (by omega)
      have aC := aC.fr f8 (by omega)
      have aB := aB.fr f8 (by omega)
      have F := F.trans (f8.mono fun x e => by omega)
      refine ax_ireturn f225_59 rfl rfl ?_
      exact ⟨rI_of rfl, ⟨⟨_, _, _, _, _, o⟩, a1, ⟨_, a2, e2⟩, ⟨_, a3, e3⟩, a4, ⟨_, a5⟩, hW, aT, ⟨_, aC⟩, ⟨_, aB⟩⟩, F⟩
    · refine ax_lload_n f225_47 rfl ?_
      refine ax_lload f225_48 rfl ?_
      refine ax_lcmpz f225_50 ?_
      refine ax_if_lt f225_51 rfl (lcz_in _ _) (fun q51 => ?_) (fun q51 => ?_)
      · exact absurd ⟨by have := mt lcz_lt.mpr q44; rw [e0] at this; omega, by have := lcz_lt.mp q51; rw [hE] at this; exact this⟩ h1
      · refine ax_aload_n f225_54 rfl ?_
        refine ax_iconst f225_55 ?_
        refine ax_cvI (rest := []) f225_56 o rfl rfl rfl rfl rfl rfl rfl rfl (c_144 o) ?_
        rintro h8 ⟨o8, f8⟩
        have o : Mo h8 _ _ _ _ _ _ _ _ := o8
        have a1 := a1.fr f8 (by omega)
        have a2 := a2.fr f8 (by omega)
        have a3 := a3.fr f8 (by omega)
        have a4 := a4.fr f8 (by omega)
        have a5 := a5.fr f8 (by omega)
        have hW := hW.mv f8 (by omega) (by omega) (by omega) (by omega)
        have aT := aT.fr f8 (by omega)
        have aC := aC.fr f8 (by omega)
        have aB := aB.fr f8 (by omega)
        have F := F.trans (f8.mono fun x e => by omega)
        refine ax_ireturn f225_59 rfl rfl ?_
        exact ⟨rI_of rfl, ⟨⟨_, _, _, _, _, o⟩, a1, ⟨_, a2, e2⟩, ⟨_, a3, e3⟩, a4, ⟨_, a5⟩, hW, aT, ⟨_, aC⟩, ⟨_, aB⟩⟩, F⟩
theorem m_225 {h : am_H} {R : Int → Int} {S : Int → Int → Int} {c : Int} {G : Nat → Int → Int} {b : Int → Int} {T : Int → Int} {L th : Int} (a : Mdl h (R, S, c, G, b, T, L) th) (k : okS (R, S, c, G, b, T, L)) {n : Int} {x : Int64} (h0 : 1 ≤ n ∧ n ≤ 3) (h1 : 0 ≤ x.toInt ∧ x.toInt < ((100000 ^ n.toNat : Nat) : Int)) : am_X 11 225 0 (am_ent 225 [.ref 120, .int (iI n), .long x]) [] h (Mot h (rsv R x n) 0 (R, S, c, G, b, T, L)) := by
  show am_X 11 225 0 [.ref 120, .int (iI n), .long x, am_u, am_u, am_u, am_u] [] h _
  obtain ⟨⟨lk, pa, sp, fi, se, o⟩, a1, ⟨g2, a2, e2⟩, ⟨g3, a3, e3⟩, a4, ⟨g5, a5⟩, hW, aT, ⟨gC, aC⟩, gB, aB⟩ := a
  have o : Mo h c th lk pa L sp fi se := o
  have a1 : oI h 121 270 R := a1
  have e2 : ∀ k j, 0 ≤ k → k < c → 0 ≤ j → j < 270 → g2 (270 * k + j) = S k j := e2
  have e3 : ∀ (q : Nat) j, q < 2 → b q = 1 → 0 ≤ j → j < 270 → g3 (270 * q + j) = G q j := e3
  have a4 : oA 2 h 124 2 b := a4
  have aT : oI h 130 120 T := aT
  have i : inv R := k.1
  have iS : ∀ k, 0 ≤ k → k < c → inv (S k) := k.2.1
  have hc : 0 ≤ c ∧ c ≤ 14 := k.2.2.1
  have iG : ∀ q : Nat, q < 2 → b q = 1 → inv (G q) := k.2.2.2.1
  have hb : ∀ j, 0 ≤ j → j < 2 → b j = 0 ∨ b j = 1 := k.2.2.2.2.1
  have hL : 0 ≤ L ∧ L ≤ 120 := k.2.2.2.2.2.1
  have hT : ∀ j, 0 ≤ j → j < L → 0 ≤ T j ∧ T j ≤ 255 := k.2.2.2.2.2.2
  clear k
  have F : fr (fun x => 120 ≤ x ∧ x ≤ 132) h h := fr_rf
  have e0 : (Int64.ofNat ((0 : Fin 2) : Nat)).toInt = 0 := by decide
  obtain ⟨ex, hN⟩ := lN_ofI h1.1
  obtain ⟨N, hNe⟩ : ∃ N, x.toInt.toNat = N := ⟨_, rfl⟩
  rw [hNe] at ex hN
  rcases (show n = 1 ∨ n = 2 ∨ n = 3 by omega) with rfl | rfl | rfl
  · have hn : inI 1 := ⟨by decide, by decide⟩
    have hE : (100000 : Int64).toInt = 100000 := by decide
    have h2 : x.toInt < 100000 := h1.2
    refine ax_aload_n f225_0 rfl ?_
    refine ax_iconst f225_1 ?_
    refine ax_putfO f225_2 o rfl rfl rfl rfl (fun hp1 o1 r1 => ?_)
    have o : Mo hp1 _ _ _ _ _ _ _ _ := o1
    have a1 := a1.fr r1 (by omega)
    have a2 := a2.fr r1 (by omega)
    have a3 := a3.fr r1 (by omega)
    have a4 := a4.fr r1 (by omega)
    have a5 := a5.fr r1 (by omega)
    have hW := hW.mv r1 (by omega) (by omega) (by omega) (by omega)
    have aT := aT.fr r1 (by omega)
    have aC := aC.fr r1 (by omega)
    have aB := aB.fr r1 (by omega)
    have F := F.trans (r1.mono fun x e => by omega)
    refine ax_iload_n f225_5 rfl ?_
    refine ax_iconst f225_6 ?_
    refine ax_icmp_ne f225_7 rfl ⟨by omega, by omega⟩ ⟨by omega, by omega⟩ (fun q7 => absurd q7 (by omega)) (fun q7 => ?_)
    refine ax_ldc2_w f225_10 ?_
    refine ax_goto f225_13 rfl ?_
    refine ax_lstore (ls' := [_, _, _, _, _, _, _]) f225_30 (Nat.le_of_ble_eq_true rfl) rfl ?_
    refine ax_iload_n f225_32 rfl ?_
    refine ax_iconst f225_33 ?_
    refine ax_iconst f225_34 ?_
    refine ax_csI (rest := []) f225_35 (Or.inl rfl) rfl rfl rfl rfl rfl rfl (c_145 hn ⟨by decide, by decide⟩ ⟨by decide, by decide⟩) ?_
    intro _ e_
    obtain rfl := e_.symm
    clear e_
    refine ax_nmI (b2i_t h0) ?_
    refine ax_if_eq f225_38 rfl ⟨by omega, by omega⟩ (fun q38 => absurd q38 (by omega)) (fun q38 => ?_)
    refine ax_lload_n f225_41 rfl ?_
    refine ax_lconst f225_42 ?_
    refine ax_lcmpz f225_43 ?_
    refine ax_if_lt f225_44 rfl (lcz_in _ _) (fun q44 => ?_) (fun q44 => ?_)
    · exact absurd (lcz_lt.mp q44) (by rw [e0]; omega)
    · refine ax_lload_n f225_47 rfl ?_
      refine ax_lload f225_48 rfl ?_
      refine ax_lcmpz f225_50 ?_
      refine ax_if_lt f225_51 rfl (lcz_in _ _) (fun q51 => ?_) (fun q51 => ?_)
      · refine ax_aload_n f225_60 rfl ?_
        refine ax_cvV (rest := []) f225_61 o rfl rfl rfl rfl rfl rfl rfl rfl (c_149 o a1 a5) ?_
        rintro h6 ⟨a56, f6⟩
        have o : Mo h6 _ _ _ _ _ _ _ _ := f6.at (q := 120) (by omega) o
        have a1 := a1.fr f6 (by omega)
        have a2 := a2.fr f6 (by omega)
        have a3 := a3.fr f6 (by omega)
        have a4 := a4.fr f6 (by omega)
        have a5 := a56
        have hW := hW.mv f6 (by omega) (by omega) (by omega) (by omega)
        have aT := aT.fr f6 (by omega)
        have aC := aC.fr f6 (by omega)
        have aB := aB.fr f6 (by omega)
        have F := F.trans (f6.mono fun x e => by omega)
        refine ax_aload_n f225_64 rfl ?_
        refine ax_iload_n f225_65 rfl ?_
        refine ax_lload_n f225_66 rfl ?_
        refine ax_cvI (rest := []) f225_67 o rfl rfl rfl rfl rfl rfl rfl rfl (ex ▸ c_224 (N := N) o a1 i hW hN h0) ?_
        rintro h7 ⟨⟨lk7, pa7, o7⟩, ⟨R7, a17⟩, hW7, f7⟩
        have o : Mo h7 _ _ _ _ _ _ _ _ := o7
        have a1 := a17
        have a2 := a2.fr f7 (by omega)
        have a3 := a3.fr f7 (by omega)
        have a4 := a4.fr f7 (by omega)
        have a5 := a5.fr f7 (by omega)
        have hW := hW7
        have aT := aT.fr f7 (by omega)
        have aC := aC.fr f7 (by omega)
        have aB := aB.fr f7 (by omega)
        have F := F.trans (f7.mono fun x e => by omega)
        refine ax_istore (ls' := [_, _, _, _, _, _, _]) f225_70 (Nat.le_of_ble_eq_true rfl) rfl ?_
        refine ax_aload_n f225_72 rfl ?_
        refine ax_cvV (rest := []) f225_73 o rfl rfl rfl rfl rfl rfl rfl rfl (c_150 o a5 a1) ?_
        rintro h8 ⟨a18, f8⟩
        have o : Mo h8 _ _ _ _ _ _ _ _ := f8.at (q := 120) (by omega) o
        have a1 := a18
        have a2 := a2.fr f8 (by omega)
        have a3 := a3.fr f8 (by omega)
        have a4 := a4.fr f8 (by omega)
        have a5 := a5.fr f8 (by omega)
        have hW := hW.mv f8 (by omega) (by omega) (by omega) (by omega)
        have aT := aT.fr f8 (by omega)
        have aC := aC.fr f8 (by omega)
        have aB := aB.fr f8 (by omega)
        have F := F.trans (f8.mono fun x e => by omega)
        refine ax_iload f225_76 rfl ?_
        refine ax_ireturn f225_78 rfl rfl ?_
        have ev : rsv R x 1 = rsl N (1 : Int).toNat R 0 := by unfold rsv; rw [hNe]
        exact ⟨rI_of ev.symm, ⟨⟨_, _, _, _, _, o⟩, a1, ⟨_, a2, e2⟩, ⟨_, a3, e3⟩, a4, ⟨_, a5⟩, hW, aT, ⟨_, aC⟩, ⟨_, aB⟩⟩, F⟩
      · exact (q51 (lcz_lt.mpr (by rw [hE]; exact h2))).elim
  · have hn : inI 2 := ⟨by decide, by decide⟩
    have hE : (10000000000 : Int64).toInt = 10000000000 := by decide
    have h2 : x.toInt < 10000000000 := h1.2
    refine ax_aload_n f225_0 rfl ?_
    refine ax_iconst f225_1 ?_
    refine ax_putfO f225_2 o rfl rfl rfl rfl (fun hp1 o1 r1 => ?_)
    have o : Mo hp1 _ _ _ _ _ _ _ _ := o1
    have a1 := a1.fr r1 (by omega)
    have a2 := a2.fr r1 (by omega)
    have a3 := a3.fr r1 (by omega)
    have a4 := a4.fr r1 (by omega)
    have a5 := a5.fr r1 (by omega)
    have hW := hW.mv r1 (by omega) (by omega) (by omega) (by omega)
    have aT := aT.fr r1 (by omega)
    have aC := aC.fr r1 (by omega)
    have aB := aB.fr r1 (by omega)
    have F := F.trans (r1.mono fun x e => by omega)
    refine ax_iload_n f225_5 rfl ?_
    refine ax_iconst f225_6 ?_
    refine ax_icmp_ne f225_7 rfl ⟨by omega, by omega⟩ ⟨by omega, by omega⟩ (fun q7 => ?_) (fun q7 => absurd q7 (by omega))
    refine ax_iload_n f225_16 rfl ?_
    refine ax_iconst f225_17 ?_
    refine ax_icmp_ne f225_18 rfl ⟨by omega, by omega⟩ ⟨by omega, by omega⟩ (fun q18 => absurd q18 (by omega)) (fun q18 => ?_)
    refine ax_ldc2_w f225_21 ?_
    refine ax_goto f225_24 rfl ?_
    refine ax_lstore (ls' := [_, _, _, _, _, _, _]) f225_30 (Nat.le_of_ble_eq_true rfl) rfl ?_
    refine ax_iload_n f225_32 rfl ?_
    refine ax_iconst f225_33 ?_
    refine ax_iconst f225_34 ?_
    refine ax_csI (rest := []) f225_35 (Or.inl rfl) rfl rfl rfl rfl rfl rfl (c_145 hn ⟨by decide, by decide⟩ ⟨by decide, by decide⟩) ?_
    intro _ e_
    obtain rfl := e_.symm
    clear e_
    refine ax_nmI (b2i_t h0) ?_
    refine ax_if_eq f225_38 rfl ⟨by omega, by omega⟩ (fun q38 => absurd q38 (by omega)) (fun q38 => ?_)
    refine ax_lload_n f225_41 rfl ?_
    refine ax_lconst f225_42 ?_
    refine ax_lcmpz f225_43 ?_
    refine ax_if_lt f225_44 rfl (lcz_in _ _) (fun q44 => ?_) (fun q44 => ?_)
    · exact absurd (lcz_lt.mp q44) (by rw [e0]; omega)
    · refine ax_lload_n f225_47 rfl ?_
      refine ax_lload f225_48 rfl ?_
      refine ax_lcmpz f225_50 ?_
      refine ax_if_lt f225_51 rfl (lcz_in _ _) (fun q51 => ?_) (fun q51 => ?_)
      · refine ax_aload_n f225_60 rfl ?_
        refine ax_cvV (rest := []) f225_61 o rfl rfl rfl rfl rfl rfl rfl rfl (c_149 o a1 a5) ?_
        rintro h6 ⟨a56, f6⟩
        have o : Mo h6 _ _ _ _ _ _ _ _ := f6.at (q := 120) (by omega) o
        have a1 := a1.fr f6 (by omega)
        have a2 := a2.fr f6 (by omega)
        have a3 := a3.fr f6 (by omega)
        have a4 := a4.fr f6 (by omega)
        have a5 := a56
        have hW := hW.mv f6 (by omega) (by omega) (by omega) (by omega)
        have aT := aT.fr f6 (by omega)
        have aC := aC.fr f6 (by omega)
        have aB := aB.fr f6 (by omega)
        have F := F.trans (f6.mono fun x e => by omega)
        refine ax_aload_n f225_64 rfl ?_
        refine ax_iload_n f225_65 rfl ?_
        refine ax_lload_n f225_66 rfl ?_
        refine ax_cvI (rest := []) f225_67 o rfl rfl rfl rfl rfl rfl rfl rfl (ex ▸ c_224 (N := N) o a1 i hW hN h0) ?_
        rintro h7 ⟨⟨lk7, pa7, o7⟩, ⟨R7, a17⟩, hW7, f7⟩
        have o : Mo h7 _ _ _ _ _ _ _ _ := o7
        have a1 := a17
        have a2 := a2.fr f7 (by omega)
        have a3 := a3.fr f7 (by omega)
        have a4 := a4.fr f7 (by omega)
        have a5 := a5.fr f7 (by omega)
        have hW := hW7
        have aT := aT.fr f7 (by omega)
        have aC := aC.fr f7 (by omega)
        have aB := aB.fr f7 (by omega)
        have F := F.trans (f7.mono fun x e => by omega)
        refine ax_istore (ls' := [_, _, _, _, _, _, _]) f225_70 (Nat.le_of_ble_eq_true rfl) rfl ?_
        refine ax_aload_n f225_72 rfl ?_
        refine ax_cvV (rest := []) f225_73 o rfl rfl rfl rfl rfl rfl rfl rfl (c_150 o a5 a1) ?_
        rintro h8 ⟨a18, f8⟩
        have o : Mo h8 _ _ _ _ _ _ _ _ := f8.at (q := 120) (by omega) o
        have a1 := a18
        have a2 := a2.fr f8 (by omega)
        have a3 := a3.fr f8 (by omega)
        have a4 := a4.fr f8 (by omega)
        have a5 := a5.fr f8 (by omega)
        have hW := hW.mv f8 (by omega) (by omega) (by omega) (by omega)
        have aT := aT.fr f8 (by omega)
        have aC := aC.fr f8 (by omega)
        have aB := aB.fr f8 (by omega)
        have F := F.trans (f8.mono fun x e => by omega)
        refine ax_iload f225_76 rfl ?_
        refine ax_ireturn f225_78 rfl rfl ?_
        have ev : rsv R x 2 = rsl N (2 : Int).toNat R 0 := by unfold rsv; rw [hNe]
        exact ⟨rI_of ev.symm, ⟨⟨_, _, _, _, _, o⟩, a1, ⟨_, a2, e2⟩, ⟨_, a3, e3⟩, a4, ⟨_, a5⟩, hW, aT, ⟨_, aC⟩, ⟨_, aB⟩⟩, F⟩
      · exact (q51 (lcz_lt.mpr (by rw [hE]; exact h2))).elim
  · have hn : inI 3 := ⟨by decide, by decide⟩
    have hE : (1000000000000000 : Int64).toInt = 1000000000000000 := by decide
    have h2 : x.toInt < 1000000000000000 := h1.2
    refine ax_aload_n f225_0 rfl ?_
    refine ax_iconst f225_1 ?_
    refine ax_putfO f225_2 o rfl rfl rfl rfl (fun hp1 o1 r1 => ?_)
    have o : Mo hp1 _ _ _ _ _ _ _ _ := o1
    have a1 := a1.fr r1 (by omega)
    have a2 := a2.fr r1 (by omega)
    have a3 := a3.fr r1 (by omega)
    have a4 := a4.fr r1 (by omega)
    have a5 := a5.fr r1 (by omega)
    have hW := hW.mv r1 (by omega) (by omega) (by omega) (by omega)
    have aT := aT.fr r1 (by omega)
    have aC := aC.fr r1 (by omega)
    have aB := aB.fr r1 (by omega)
    have F := F.trans (r1.mono fun x e => by omega)
    refine ax_iload_n f225_5 rfl ?_
    refine ax_iconst f225_6 ?_
    refine ax_icmp_ne f225_7 rfl ⟨by omega, by omega⟩ ⟨by omega, by omega⟩ (fun q7 => ?_) (fun q7 => absurd q7 (by omega))
    refine ax_iload_n f225_16 rfl ?_
    refine ax_iconst f225_17 ?_
    refine ax_icmp_ne f225_18 rfl ⟨by omega, by omega⟩ ⟨by omega, by omega⟩ (fun q18 => ?_) (fun q18 => absurd q18 (by omega))
    refine ax_ldc2_w f225_27 ?_
    refine ax_lstore (ls' := [_, _, _, _, _, _, _]) f225_30 (Nat.le_of_ble_eq_true rfl) rfl ?_
    refine ax_iload_n f225_32 rfl ?_
    refine ax_iconst f225_33 ?_
    refine ax_iconst f225_34 ?_
    refine ax_csI (rest := []) f225_35 (Or.inl rfl) rfl rfl rfl rfl rfl rfl (c_145 hn ⟨by decide, by decide⟩ ⟨by decide, by decide⟩) ?_
    intro _ e_
    obtain rfl := e_.symm
    clear e_
    refine ax_nmI (b2i_t h0) ?_
    refine ax_if_eq f225_38 rfl ⟨by omega, by omega⟩ (fun q38 => absurd q38 (by omega)) (fun q38 => ?_)
    refine ax_lload_n f225_41 rfl ?_
    refine ax_lconst f225_42 ?_
    refine ax_lcmpz f225_43 ?_
    refine ax_if_lt f225_44 rfl (lcz_in _ _) (fun q44 => ?_) (fun q44 => ?_)
    · exact absurd (lcz_lt.mp q44) (by rw [e0]; omega)
    · refine ax_lload_n f225_47 rfl ?_
      refine ax_lload f225_48 rfl ?_
      refine ax_lcmpz f225_50 ?_
      refine ax_if_lt f225_51 rfl (lcz_in _ _) (fun q51 => ?_) (fun q51 => ?_)
      · refine ax_aload_n f225_60 rfl ?_
        refine ax_cvV (rest := []) f225_61 o rfl rfl rfl rfl rfl rfl rfl rfl (c_149 o a1 a5) ?_
        rintro h6 ⟨a56, f6⟩
        have o : Mo h6 _ _ _ _ _ _ _ _ := f6.at (q := 120) (by omega) o
        have a1 := a1.fr f6 (by omega)
        have a2 := a2.fr f6 (by omega)
        have a3 := a3.fr f6 (by omega)
        have a4 := a4.fr f6 (by omega)
        have a5 := a56
        have hW := hW.mv f6 (by omega) (by omega) (by omega) (by omega)
        have aT := aT.fr f6 (by omega)
        have aC := aC.fr f6 (by omega)
        have aB := aB.fr f6 (by omega)
        have F := F.trans (f6.mono fun x e => by omega)
        refine ax_aload_n f225_64 rfl ?_
        refine ax_iload_n f225_65 rfl ?_
        refine ax_lload_n f225_66 rfl ?_
        refine ax_cvI (rest := []) f225_67 o rfl rfl rfl rfl rfl rfl rfl rfl (ex ▸ c_224 (N := N) o a1 i hW hN h0) ?_
        rintro h7 ⟨⟨lk7, pa7, o7⟩, ⟨R7, a17⟩, hW7, f7⟩
        have o : Mo h7 _ _ _ _ _ _ _ _ := o7
        have a1 := a17
        have a2 := a2.fr f7 (by omega)
        have a3 := a3.fr f7 (by omega)
        have a4 := a4.fr f7 (by omega)
        have a5 := a5.fr f7 (by omega)
        have hW := hW7
        have aT := aT.fr f7 (by omega)
        have aC := aC.fr f7 (by omega)
        have aB := aB.fr f7 (by omega)
        have F := F.trans (f7.mono fun x e => by omega)
        refine ax_istore (ls' := [_, _, _, _, _, _, _]) f225_70 (Nat.le_of_ble_eq_true rfl) rfl ?_
        refine ax_aload_n f225_72 rfl ?_
        refine ax_cvV (rest := []) f225_73 o rfl rfl rfl rfl rfl rfl rfl rfl (c_150 o a5 a1) ?_
        rintro h8 ⟨a18, f8⟩
        have o : Mo h8 _ _ _ _ _ _ _ _ := f8.at (q := 120) (by omega) o
        have a1 := a18
        have a2 := a2.fr f8 (by omega)
        have a3 := a3.fr f8 (by omega)
        have a4 := a4.fr f8 (by omega)
        have a5 := a5.fr f8 (by omega)
        have hW := hW.mv f8 (by omega) (by omega) (by omega) (by omega)
        have aT := aT.fr f8 (by omega)
        have aC := aC.fr f8 (by omega)
        have aB := aB.fr f8 (by omega)
        have F := F.trans (f8.mono fun x e => by omega)
        refine ax_iload f225_76 rfl ?_
        refine ax_ireturn f225_78 rfl rfl ?_
        have ev : rsv R x 3 = rsl N (3 : Int).toNat R 0 := by unfold rsv; rw [hNe]
        exact ⟨rI_of ev.symm, ⟨⟨_, _, _, _, _, o⟩, a1, ⟨_, a2, e2⟩, ⟨_, a3, e3⟩, a4, ⟨_, a5⟩, hW, aT, ⟨_, aC⟩, ⟨_, aB⟩⟩, F⟩
      · exact (q51 (lcz_lt.mpr (by rw [hE]; exact h2))).elim
theorem m_228_1 {h : am_H} {R : Int → Int} {S : Int → Int → Int} {c : Int} {G : Nat → Int → Int} {b : Int → Int} {T : Int → Int} {L th : Int} (a : Mdl h (R, S, c, G, b, T, L) th) (k : okS (R, S, c, G, b, T, L)) {x : Int64} {m : Int} (hmm : inI m) (h0 : ¬ (1 ≤ m ∧ m ≤ 60)) : am_X 11 228 0 (am_ent 228 [.ref 120, .long x, .int (iI m)]) [] h (Mot h (0) 1 (R, S, c, G, b, T, L)) := by
  show am_X 11 228 0 [.ref 120, .long x, am_u, .int (iI m), am_u] [] h _
  obtain ⟨⟨lk, pa, sp, fi, se, o⟩, a1, ⟨g2, a2, e2⟩, ⟨g3, a3, e3⟩, a4, ⟨g5, a5⟩, hW, aT, ⟨gC, aC⟩, gB, aB⟩ := a
  have o : Mo h c th lk pa L sp fi se := o
  have a1 : oI h 121 270 R := a1
  have e2 : ∀ k j, 0 ≤ k → k < c → 0 ≤ j → j < 270 → g2 (270 * k + j) = S k j := e2
  have e3 : ∀ (q : Nat) j, q < 2 → b q = 1 → 0 ≤ j → j < 270 → g3 (270 * q + j) = G q j := e3
  have a4 : oA 2 h 124 2 b := a4
  have aT : oI h 130 120 T := aT
  have i : inv R := k.1
  have iS : ∀ k, 0 ≤ k → k < c → inv (S k) := k.2.1
  have hc : 0 ≤ c ∧ c ≤ 14 := k.2.2.1
  have iG : ∀ q : Nat, q < 2 → b q = 1 → inv (G q) := k.2.2.2.1
  have hb : ∀ j, 0 ≤ j → j < 2 → b j = 0 ∨ b j = 1 := k.2.2.2.2.1
  have hL : 0 ≤ L ∧ L ≤ 120 := k.2.2.2.2.2.1
  have hT : ∀ j, 0 ≤ j → j < L → 0 ≤ T j ∧ T j ≤ 255 := k.2.2.2.2.2.2
  clear k
  have F : fr (fun x => 120 ≤ x ∧ x ≤ 132) h h := fr_rf
  refine ax_aload_n f228_0 rfl ?_
  refine ax_iconst f228_1 ?_
  refine ax_putfO f228_2 o rfl rfl rfl rfl (fun hp1 o1 r1 => ?_)
  have o : Mo hp1 _ _ _ _ _ _ _ _ := o1
  have a1 := a1.fr r1 (by omega)
  have a2 := a2.fr r1 (by omega)
  have a3 := a3.fr r1 (by omega)
  have a4 := a4.fr r1 (by omega)
  have a5 := a5.fr r1 (by omega)
  have hW := hW.mv r1 (by omega) (by omega) (by omega) (by omega)
  have aT := aT.fr r1 (by omega)
  have aC := aC.fr r1 (by omega)
  have aB := aB.fr r1 (by omega)
  have F := F.trans (r1.mono fun x e => by omega)
  refine ax_iload_n f228_5 rfl ?_
  refine ax_iconst f228_6 ?_
  refine ax_bipush f228_7 ?_
  refine ax_csI (rest := []) f228_9 (Or.inl rfl) rfl rfl rfl rfl rfl rfl (c_145 hmm ⟨by decide, by decide⟩ ⟨by decide, by decide⟩) ?_
  intro _ e_
  obtain rfl := e_.symm
  clear e_
  refine ax_nmI (b2i_f h0) ?_
  refine ax_if_ne f228_12 rfl ⟨by omega, by omega⟩ (fun q12 => absurd q12 (by omega)) (fun q12 => ?_)
  refine ax_aload_n f228_15 rfl ?_
  refine ax_iconst f228_16 ?_
  refine ax_cvI (rest := []) f228_17 o rfl rfl rfl rfl rfl rfl rfl rfl (c_144 o) ?_
  rintro h8 ⟨o8, f8⟩
  have o : Mo h8 _ _ _ _ _ _ _ _ := o8
  have a1 := a1.fr f8 (by omega)
  have a2 := a2.fr f8 (by omega)
  have a3 := a3.fr f8 (by omega)
  have a4 := a4.fr f8 (by omega)
  have a5 := a5.fr f8 (by omega)
  have hW := hW.mv f8 (by omega) (by omega) (by omega) (by omega)
  have aT := aT.fr f8 (by omega)
  have aC := aC.fr f8 (by omega)
  have aB := aB.fr f8 (by omega)
  have F := F.trans (f8.mono fun x e => by omega)
  refine ax_ireturn f228_20 rfl rfl ?_
  exact ⟨rI_of rfl, ⟨⟨_, _, _, _, _, o⟩, a1, ⟨_, a2, e2⟩, ⟨_, a3, e3⟩, a4, ⟨_, a5⟩, hW, aT, ⟨_, aC⟩, ⟨_, aB⟩⟩, F⟩
theorem m_228 {h : am_H} {R : Int → Int} {S : Int → Int → Int} {c : Int} {G : Nat → Int → Int} {b : Int → Int} {T : Int → Int} {L th : Int} (a : Mdl h (R, S, c, G, b, T, L) th) (k : okS (R, S, c, G, b, T, L)) {x : Int64} {m : Int} (h0 : 1 ≤ m ∧ m ≤ 60) : am_X 11 228 0 (am_ent 228 [.ref 120, .long x, .int (iI m)]) [] h (Mot h (smu R x m) 0 (R, S, c, G, b, T, L)) := by
  show am_X 11 228 0 [.ref 120, .long x, am_u, .int (iI m), am_u] [] h _
  obtain ⟨⟨lk, pa, sp, fi, se, o⟩, a1, ⟨g2, a2, e2⟩, ⟨g3, a3, e3⟩, a4, ⟨g5, a5⟩, hW, aT, ⟨gC, aC⟩, gB, aB⟩ := a
  have o : Mo h c th lk pa L sp fi se := o
  have a1 : oI h 121 270 R := a1
  have e2 : ∀ k j, 0 ≤ k → k < c → 0 ≤ j → j < 270 → g2 (270 * k + j) = S k j := e2
  have e3 : ∀ (q : Nat) j, q < 2 → b q = 1 → 0 ≤ j → j < 270 → g3 (270 * q + j) = G q j := e3
  have a4 : oA 2 h 124 2 b := a4
  have aT : oI h 130 120 T := aT
  have i : inv R := k.1
  have iS : ∀ k, 0 ≤ k → k < c → inv (S k) := k.2.1
  have hc : 0 ≤ c ∧ c ≤ 14 := k.2.2.1
  have iG : ∀ q : Nat, q < 2 → b q = 1 → inv (G q) := k.2.2.2.1
  have hb : ∀ j, 0 ≤ j → j < 2 → b j = 0 ∨ b j = 1 := k.2.2.2.2.1
  have hL : 0 ≤ L ∧ L ≤ 120 := k.2.2.2.2.2.1
  have hT : ∀ j, 0 ≤ j → j < L → 0 ≤ T j ∧ T j ≤ 255 := k.2.2.2.2.2.2
  clear k
  have F : fr (fun x => 120 ≤ x ∧ x ≤ 132) h h := fr_rf
  have hmm : inI m := ⟨by omega, by omega⟩
  refine ax_aload_n f228_0 rfl ?_
  refine ax_iconst f228_1 ?_
  refine ax_putfO f228_2 o rfl rfl rfl rfl (fun hp1 o1 r1 => ?_)
  have o : Mo hp1 _ _ _ _ _ _ _ _ := o1
  have a1 := a1.fr r1 (by omega)
  have a2 := a2.fr r1 (by omega)
  have a3 := a3.fr r1 (by omega)
  have a4 := a4.fr r1 (by omega)
  have a5 := a5.fr r1 (by omega)
  have hW := hW.mv r1 (by omega) (by omega) (by omega) (by omega)
  have aT := aT.fr r1 (by omega)
  have aC := aC.fr r1 (by omega)
  have aB := aB.fr r1 (by omega)
  have F := F.trans (r1.mono fun x e => by omega)
  refine ax_iload_n f228_5 rfl ?_
  refine ax_iconst f228_6 ?_
  refine ax_bipush f228_7 ?_
  refine ax_csI (rest := []) f228_9 (Or.inl rfl) rfl rfl rfl rfl rfl rfl (c_145 hmm ⟨by decide, by decide⟩ ⟨by decide, by decide⟩) ?_
  intro _ e_
  obtain rfl := e_.symm
  clear e_
  refine ax_nmI (b2i_t h0) ?_
  refine ax_if_ne f228_12 rfl ⟨by omega, by omega⟩ (fun q12 => ?_) (fun q12 => absurd q12 (by omega))
  refine ax_aload_n f228_21 rfl ?_
  refine ax_cvV (rest := []) f228_22 o rfl rfl rfl rfl rfl rfl rfl rfl (c_149 o a1 a5) ?_
  rintro h6 ⟨a56, f6⟩
  have o : Mo h6 _ _ _ _ _ _ _ _ := f6.at (q := 120) (by omega) o
  have a1 := a1.fr f6 (by omega)
  have a2 := a2.fr f6 (by omega)
  have a3 := a3.fr f6 (by omega)
  have a4 := a4.fr f6 (by omega)
  have a5 := a56
  have hW := hW.mv f6 (by omega) (by omega) (by omega) (by omega)
  have aT := aT.fr f6 (by omega)
  have aC := aC.fr f6 (by omega)
  have aB := aB.fr f6 (by omega)
  have F := F.trans (f6.mono fun x e => by omega)
  refine ax_aload_n f228_25 rfl ?_
  refine ax_lload_n f228_26 rfl ?_
  refine ax_iload_n f228_27 rfl ?_
  refine ax_cvI (rest := []) f228_28 o rfl rfl rfl rfl rfl rfl rfl rfl (c_227 o a1 i hW h0) ?_
  rintro h7 ⟨⟨lk7, pa7, o7⟩, ⟨R7, a17⟩, hW7, f7⟩
  have o : Mo h7 _ _ _ _ _ _ _ _ := o7
  have a1 := a17
  have a2 := a2.fr f7 (by omega)
  have a3 := a3.fr f7 (by omega)
  have a4 := a4.fr f7 (by omega)
  have a5 := a5.fr f7 (by omega)
  have hW := hW7
  have aT := aT.fr f7 (by omega)
  have aC := aC.fr f7 (by omega)
  have aB := aB.fr f7 (by omega)
  have F := F.trans (f7.mono fun x e => by omega)
  refine ax_istore (ls' := [_, _, _, _, _]) f228_31 (Nat.le_of_ble_eq_true rfl) rfl ?_
  refine ax_aload_n f228_33 rfl ?_
  refine ax_cvV (rest := []) f228_34 o rfl rfl rfl rfl rfl rfl rfl rfl (c_150 o a5 a1) ?_
  rintro h8 ⟨a18, f8⟩
  have o : Mo h8 _ _ _ _ _ _ _ _ := f8.at (q := 120) (by omega) o
  have a1 := a18
  have a2 := a2.fr f8 (by omega)
  have a3 := a3.fr f8 (by omega)
  have a4 := a4.fr f8 (by omega)
  have a5 := a5.fr f8 (by omega)
  have hW := hW.mv f8 (by omega) (by omega) (by omega) (by omega)
  have aT := aT.fr f8 (by omega)
  have aC := aC.fr f8 (by omega)
  have aB := aB.fr f8 (by omega)
  have F := F.trans (f8.mono fun x e => by omega)
  refine ax_iload f228_37 rfl ?_
  refine ax_ireturn f228_39 rfl rfl ?_
  exact ⟨rI_of rfl, ⟨⟨_, _, _, _, _, o⟩, a1, ⟨_, a2, e2⟩, ⟨_, a3, e3⟩, a4, ⟨_, a5⟩, hW, aT, ⟨_, aC⟩, ⟨_, aB⟩⟩, F⟩
theorem lp_229 {d : Nat} {Q : am_R → am_H → Prop} {R g0 : Int → Int} {z : Int} {c th lk pa le sp fi se : Int} (hz : 0 ≤ z ∧ z ≤ 1) : ∀ {h : am_H} (o : Mo h c th lk pa le sp fi se) (a1 : oI h 121 270 R) (n : Nat) (r : Int), r + n = 270 → 0 ≤ r → ∀ g : Int → Int, oI h 123 540 g → (∀ j, 0 ≤ j → j < r → g (270 * z + j) = R j) → (∀ j, j < 270 * z ∨ 270 * z + 270 ≤ j → g j = g0 j) → (∀ (h' : am_H) (g' : Int → Int), oI h' 123 540 g' → (∀ j, 0 ≤ j → j < 270 → g' (270 * z + j) = R j) → (∀ j, j < 270 * z ∨ 270 * z + 270 ≤ j → g' j = g0 j) → fr (fun x => x = 123) h h' → am_X d 229 53 [.ref 120, .int (iI z), .int (iI 270)] [] h' Q) → am_X d 229 22 [.ref 120, .int (iI z), .int (iI r)] [] h Q
  | h, o, a1, 0, r, h1, h2, g, a3, hg, hr, k => by
    have h1 : r = 270 := by omega
    subst h1
    refine ax_iload_n f229_22 rfl ?_
    refine ax_sipush f229_23 ?_
    refine ax_icmp_ge f229_26 rfl ⟨by omega, by omega⟩ ⟨by omega, by omega⟩ (fun q26 => ?_) (fun q26 => absurd q26 (by omega))
    exact k h _ a3 hg hr fr_rf
  | h, o, a1, n + 1, r, h1, h2, g, a3, hg, hr, k => by
    refine ax_iload_n f229_22 rfl ?_
    refine ax_sipush f229_23 ?_
    refine ax_icmp_ge f229_26 rfl ⟨by omega, by omega⟩ ⟨by omega, by omega⟩ (fun q26 => absurd q26 (by omega)) (fun q26 => ?_)
    refine ax_aload_n f229_29 rfl ?_
    refine ax_getf f229_30 o rfl ?_
    refine ax_sipush f229_33 ?_
    refine ax_iload_n f229_36 rfl ?_
    refine ax_imul f229_37 ?_
    refine ax_iload_n f229_38 rfl ?_
    refine ax_iadd f229_39 ?_
    refine ax_aload_n f229_40 rfl ?_
    refine ax_getf f229_41 o rfl ?_
    refine ax_iload_n f229_44 rfl ?_
    refine ax_ialdO f229_45 (by decide) a1 (by omega) (by omega) rfl ?_
    refine ax_iastO f229_46 a3 (by omega) (by omega) rfl (fun hp1 o1 r1 => ?_)
    have o : Mo hp1 _ _ _ _ _ _ _ _ := r1.at (q := 120) (by omega) o
    have a1 := a1.fr r1 (by omega)
    have a3 := o1
    refine ax_iinc (ls' := [_, _, _]) f229_47 rfl (Nat.le_of_ble_eq_true rfl) rfl ?_
    refine ax_goto f229_50 rfl ?_
    refine lp_229 (g0 := g0) hz o a1 n (r + 1) (by omega) (by omega) _ a3 ?_ ?_ ?_
    · intro j j1 j2
      unfold uZ
      split
      · rename_i e; rw [show j = r by omega]
      · exact hg j j1 (by omega)
    · intro j j1
      rw [uZ_n (by omega)]
      exact hr j j1
    · intro h9 g9 a9 e9 e8 f9
      exact k h9 g9 a9 e9 e8 (r1.trans f9)
theorem m_229_1 {h : am_H} {R : Int → Int} {S : Int → Int → Int} {c : Int} {G : Nat → Int → Int} {b : Int → Int} {T : Int → Int} {L th : Int} (a : Mdl h (R, S, c, G, b, T, L) th) (k : okS (R, S, c, G, b, T, L)) {z : Int} (hz : inI z) (h0 : ¬ (0 ≤ z ∧ z < 2)) : am_X 2 229 0 (am_ent 229 [.ref 120, .int (iI z)]) [] h (Mot h (0) 1 (R, S, c, G, b, T, L)) := by
  show am_X 2 229 0 [.ref 120, .int (iI z), am_u] [] h _
  obtain ⟨⟨lk, pa, sp, fi, se, o⟩, a1, ⟨g2, a2, e2⟩, ⟨g3, a3, e3⟩, a4, ⟨g5, a5⟩, hW, aT, ⟨gC, aC⟩, gB, aB⟩ := a
  have o : Mo h c th lk pa L sp fi se := o
  have a1 : oI h 121 270 R := a1
  have e2 : ∀ k j, 0 ≤ k → k < c → 0 ≤ j → j < 270 → g2 (270 * k + j) = S k j := e2
  have e3 : ∀ (q : Nat) j, q < 2 → b q = 1 → 0 ≤ j → j < 270 → g3 (270 * q + j) = G q j := e3
  have a4 : oA 2 h 124 2 b := a4
  have aT : oI h 130 120 T := aT
  have i : inv R := k.1
  have iS : ∀ k, 0 ≤ k → k < c → inv (S k) := k.2.1
  have hc : 0 ≤ c ∧ c ≤ 14 := k.2.2.1
  have iG : ∀ q : Nat, q < 2 → b q = 1 → inv (G q) := k.2.2.2.1
  have hb : ∀ j, 0 ≤ j → j < 2 → b j = 0 ∨ b j = 1 := k.2.2.2.2.1
  have hL : 0 ≤ L ∧ L ≤ 120 := k.2.2.2.2.2.1
  have hT : ∀ j, 0 ≤ j → j < L → 0 ≤ T j ∧ T j ≤ 255 := k.2.2.2.2.2.2
  clear k
  have F : fr (fun x => 120 ≤ x ∧ x ≤ 132) h h := fr_rf
  refine ax_aload_n f229_0 rfl ?_
  refine ax_iconst f229_1 ?_
  refine ax_putfO f229_2 o rfl rfl rfl rfl (fun hp1 o1 r1 => ?_)
  have o : Mo hp1 _ _ _ _ _ _ _ _ := o1
  have a1 := a1.fr r1 (by omega)
  have a2 := a2.fr r1 (by omega)
  have a3 := a3.fr r1 (by omega)
  have a4 := a4.fr r1 (by omega)
  have a5 := a5.fr r1 (by omega)
  have hW := hW.mv r1 (by omega) (by omega) (by omega) (by omega)
  have aT := aT.fr r1 (by omega)
  have aC := aC.fr r1 (by omega)
  have aB := aB.fr r1 (by omega)
  have F := F.trans (r1.mono fun x e => by omega)
  refine ax_iload_n f229_5 rfl ?_
  refine ax_iconst f229_6 ?_
  refine ax_iconst f229_7 ?_
  refine ax_csI (rest := []) f229_8 (Or.inl rfl) rfl rfl rfl rfl rfl rfl (c_145 hz ⟨by decide, by decide⟩ ⟨by decide, by decide⟩) ?_
  intro _ e_
  obtain rfl := e_.symm
  clear e_
  refine ax_nmI (b2i_f (show ¬ (0 ≤ z ∧ z ≤ 1) by omega)) ?_
  refine ax_if_ne f229_11 rfl ⟨by omega, by omega⟩ (fun q11 => absurd q11 (by omega)) (fun q11 => ?_)
  refine ax_aload_n f229_14 rfl ?_
  refine ax_iconst f229_15 ?_
  refine ax_cvI (rest := []) f229_16 o rfl rfl rfl rfl rfl rfl rfl rfl (c_144 o) ?_
  rintro h8 ⟨o8, f8⟩
  have o : Mo h8 _ _ _ _ _ _ _ _ := o8
  have a1 := a1.fr f8 (by omega)
  have a2 := a2.fr f8 (by omega)
  have a3 := a3.fr f8 (by omega)
  have a4 := a4.fr f8 (by omega)
  have a5 := a5.fr f8 (by omega)
  have hW := hW.mv f8 (by omega) (by omega) (by omega) (by omega)
  have aT := aT.fr f8 (by omega)
  have aC := aC.fr f8 (by omega)
  have aB := aB.fr f8 (by omega)
  have F := F.trans (f8.mono fun x e => by omega)
  refine ax_ireturn f229_19 rfl rfl ?_
  exact ⟨rI_of rfl, ⟨⟨_, _, _, _, _, o⟩, a1, ⟨_, a2, e2⟩, ⟨_, a3, e3⟩, a4, ⟨_, a5⟩, hW, aT, ⟨_, aC⟩, ⟨_, aB⟩⟩, F⟩
theorem m_229 {h : am_H} {R : Int → Int} {S : Int → Int → Int} {c : Int} {G : Nat → Int → Int} {b : Int → Int} {T : Int → Int} {L th : Int} (a : Mdl h (R, S, c, G, b, T, L) th) (k : okS (R, S, c, G, b, T, L)) {z : Int} (hz : inI z) (h0 : 0 ≤ z ∧ z < 2) : am_X 2 229 0 (am_ent 229 [.ref 120, .int (iI z)]) [] h (Mot h (blk R) 0 (R, S, c, fun i => if i = z.toNat then R else G i, uZ b z 1, T, L)) := by
  show am_X 2 229 0 [.ref 120, .int (iI z), am_u] [] h _
  obtain ⟨⟨lk, pa, sp, fi, se, o⟩, a1, ⟨g2, a2, e2⟩, ⟨g3, a3, e3⟩, a4, ⟨g5, a5⟩, hW, aT, ⟨gC, aC⟩, gB, aB⟩ := a
  have o : Mo h c th lk pa L sp fi se := o
  have a1 : oI h 121 270 R := a1
  have e2 : ∀ k j, 0 ≤ k → k < c → 0 ≤ j → j < 270 → g2 (270 * k + j) = S k j := e2
  have e3 : ∀ (q : Nat) j, q < 2 → b q = 1 → 0 ≤ j → j < 270 → g3 (270 * q + j) = G q j := e3
  have a4 : oA 2 h 124 2 b := a4
  have aT : oI h 130 120 T := aT
  have i : inv R := k.1
  have iS : ∀ k, 0 ≤ k → k < c → inv (S k) := k.2.1
  have hc : 0 ≤ c ∧ c ≤ 14 := k.2.2.1
  have iG : ∀ q : Nat, q < 2 → b q = 1 → inv (G q) := k.2.2.2.1
  have hb : ∀ j, 0 ≤ j → j < 2 → b j = 0 ∨ b j = 1 := k.2.2.2.2.1
  have hL : 0 ≤ L ∧ L ≤ 120 := k.2.2.2.2.2.1
  have hT : ∀ j, 0 ≤ j → j < L → 0 ≤ T j ∧ T j ≤ 255 := k.2.2.2.2.2.2
  clear k
  have F : fr (fun x => 120 ≤ x ∧ x ≤ 132) h h := fr_rf
  refine ax_aload_n f229_0 rfl ?_
  refine ax_iconst f229_1 ?_
  refine ax_putfO f229_2 o rfl rfl rfl rfl (fun hp1 o1 r1 => ?_)
  have o : Mo hp1 _ _ _ _ _ _ _ _ := o1
  have a1 := a1.fr r1 (by omega)
  have a2 := a2.fr r1 (by omega)
  have a3 := a3.fr r1 (by omega)
  have a4 := a4.fr r1 (by omega)
  have a5 := a5.fr r1 (by omega)
  have hW := hW.mv r1 (by omega) (by omega) (by omega) (by omega)
  have aT := aT.fr r1 (by omega)
  have aC := aC.fr r1 (by omega)
  have aB := aB.fr r1 (by omega)
  have F := F.trans (r1.mono fun x e => by omega)
  refine ax_iload_n f229_5 rfl ?_
  refine ax_iconst f229_6 ?_
  refine ax_iconst f229_7 ?_
  refine ax_csI (rest := []) f229_8 (Or.inl rfl) rfl rfl rfl rfl rfl rfl (c_145 hz ⟨by decide, by decide⟩ ⟨by decide, by decide⟩) ?_
  intro _ e_
  obtain rfl := e_.symm
  clear e_
  refine ax_nmI (b2i_t (show 0 ≤ z ∧ z ≤ 1 by omega)) ?_
  refine ax_if_ne f229_11 rfl ⟨by omega, by omega⟩ (fun q11 => ?_) (fun q11 => absurd q11 (by omega))
  refine ax_iconst f229_20 ?_
  refine ax_istore_n (ls' := [_, _, _]) f229_21 (Nat.le_of_ble_eq_true rfl) rfl ?_
  refine lp_229 (d := 2) (g0 := g3) (z := z) (by omega) o a1 270 0 (by omega) (by omega) _ a3 (fun j j1 j2 => by omega) (fun j _ => rfl) ?_
  intro h9 g9 a9 e9 e8 f9
  have o : Mo h9 _ _ _ _ _ _ _ _ := f9.at (q := 120) (by omega) o
  have a1 := a1.fr f9 (by omega)
  have a2 := a2.fr f9 (by omega)
  have a3 := a9
  have a4 := a4.fr f9 (by omega)
  have a5 := a5.fr f9 (by omega)
  have hW := hW.mv f9 (by omega) (by omega) (by omega) (by omega)
  have aT := aT.fr f9 (by omega)
  have aC := aC.fr f9 (by omega)
  have aB := aB.fr f9 (by omega)
  have F := F.trans (f9.mono fun x e => by omega)
  have e3 : ∀ (q : Nat) j, q < 2 → uZ b z 1 q = 1 → 0 ≤ j → j < 270 → g9 (270 * q + j) = (if q = z.toNat then R else G q) j := by
    intro q j q1 q2 j1 j2
    by_cases eq : q = z.toNat
    · rw [if_pos eq, show (q : Int) = z by omega]
      exact e9 j j1 j2
    · rw [uZ_n (by omega)] at q2
      rw [if_neg eq, e8 _ (by omega)]
      exact e3 q j q1 q2 j1 j2
  refine ax_aload_n f229_53 rfl ?_
  refine ax_getf f229_54 o rfl ?_
  refine ax_iload_n f229_57 rfl ?_
  refine ax_iconst f229_58 ?_
  refine ax_bastO f229_59 a4 (by omega) (by omega) rfl (by omega) (fun hp11 o11 r11 => ?_)
  have o : Mo hp11 _ _ _ _ _ _ _ _ := r11.at (q := 120) (by omega) o
  have a1 := a1.fr r11 (by omega)
  have a2 := a2.fr r11 (by omega)
  have a3 := a3.fr r11 (by omega)
  have a4 := o11
  have a5 := a5.fr r11 (by omega)
  have hW := hW.mv r11 (by omega) (by omega) (by omega) (by omega)
  have aT := aT.fr r11 (by omega)
  have aC := aC.fr r11 (by omega)
  have aB := aB.fr r11 (by omega)
  have F := F.trans (r11.mono fun x e => by omega)
  refine ax_aload_n f229_60 rfl ?_
  refine ax_cvI (rest := []) f229_61 o rfl rfl rfl rfl rfl rfl rfl rfl (c_151 o a1) ?_
  intro _ e_
  obtain rfl := e_.symm
  clear e_
  refine ax_ireturn f229_64 rfl rfl ?_
  exact ⟨rI_of rfl, ⟨⟨_, _, _, _, _, o⟩, a1, ⟨_, a2, e2⟩, ⟨_, a3, e3⟩, a4, ⟨_, a5⟩, hW, aT, ⟨_, aC⟩, ⟨_, aB⟩⟩, F⟩
theorem m_230_1 {h : am_H} {R : Int → Int} {S : Int → Int → Int} {c : Int} {G : Nat → Int → Int} {b : Int → Int} {T : Int → Int} {L th : Int} (a : Mdl h (R, S, c, G, b, T, L) th) (k : okS (R, S, c, G, b, T, L)) {z : Int} (hz : inI z) (h0 : ¬ (0 ≤ z ∧ z < 2)) : am_X 2 230 0 (am_ent 230 [.ref 120, .int (iI z)]) [] h (Mot h (0) 1 (R, S, c, G, b, T, L)) := by
  show am_X 2 230 0 [.ref 120, .int (iI z), am_u] [] h _
  obtain ⟨⟨lk, pa, sp, fi, se, o⟩, a1, ⟨g2, a2, e2⟩, ⟨g3, a3, e3⟩, a4, ⟨g5, a5⟩, hW, aT, ⟨gC, aC⟩, gB, aB⟩ := a
  have o : Mo h c th lk pa L sp fi se := o
  have a1 : oI h 121 270 R := a1
  have e2 : ∀ k j, 0 ≤ k → k < c → 0 ≤ j → j < 270 → g2 (270 * k + j) = S k j := e2
  have e3 : ∀ (q : Nat) j, q < 2 → b q = 1 → 0 ≤ j → j < 270 → g3 (270 * q + j) = G q j := e3
  have a4 : oA 2 h 124 2 b := a4
  have aT : oI h 130 120 T := aT
  have i : inv R := k.1
  have iS : ∀ k, 0 ≤ k → k < c → inv (S k) := k.2.1
  have hc : 0 ≤ c ∧ c ≤ 14 := k.2.2.1
  have iG : ∀ q : Nat, q < 2 → b q = 1 → inv (G q) := k.2.2.2.1
  have hb : ∀ j, 0 ≤ j → j < 2 → b j = 0 ∨ b j = 1 := k.2.2.2.2.1
  have hL : 0 ≤ L ∧ L ≤ 120 := k.2.2.2.2.2.1
  have hT : ∀ j, 0 ≤ j → j < L → 0 ≤ T j ∧ T j ≤ 255 := k.2.2.2.2.2.2
  clear k
  have F : fr (fun x => 120 ≤ x ∧ x ≤ 132) h h := fr_rf
  refine ax_aload_n f230_0 rfl ?_
  refine ax_iconst f230_1 ?_
  refine ax_putfO f230_2 o rfl rfl rfl rfl (fun hp1 o1 r1 => ?_)
  have o : Mo hp1 _ _ _ _ _ _ _ _ := o1
  have a1 := a1.fr r1 (by omega)
  have a2 := a2.fr r1 (by omega)
  have a3 := a3.fr r1 (by omega)
  have a4 := a4.fr r1 (by omega)
  have a5 := a5.fr r1 (by omega)
  have hW := hW.mv r1 (by omega) (by omega) (by omega) (by omega)
  have aT := aT.fr r1 (by omega)
  have aC := aC.fr r1 (by omega)
  have aB := aB.fr r1 (by omega)
  have F := F.trans (r1.mono fun x e => by omega)
  refine ax_iload_n f230_5 rfl ?_
  refine ax_iconst f230_6 ?_
  refine ax_iconst f230_7 ?_
  refine ax_csI (rest := []) f230_8 (Or.inl rfl) rfl rfl rfl rfl rfl rfl (c_145 hz ⟨by decide, by decide⟩ ⟨by decide, by decide⟩) ?_
  intro _ e_
  obtain rfl := e_.symm
  clear e_
  refine ax_nmI (b2i_f (show ¬ (0 ≤ z ∧ z ≤ 1) by omega)) ?_
  refine ax_if_ne f230_11 rfl ⟨by omega, by omega⟩ (fun q11 => absurd q11 (by omega)) (fun q11 => ?_)
  refine ax_aload_n f230_14 rfl ?_
  refine ax_iconst f230_15 ?_
  refine ax_cvI (rest := []) f230_16 o rfl rfl rfl rfl rfl rfl rfl rfl (c_144 o) ?_
  rintro h8 ⟨o8, f8⟩
  have o : Mo h8 _ _ _ _ _ _ _ _ := o8
  have a1 := a1.fr f8 (by omega)
  have a2 := a2.fr f8 (by omega)
  have a3 := a3.fr f8 (by omega)
  have a4 := a4.fr f8 (by omega)
  have a5 := a5.fr f8 (by omega)
  have hW := hW.mv f8 (by omega) (by omega) (by omega) (by omega)
  have aT := aT.fr f8 (by omega)
  have aC := aC.fr f8 (by omega)
  have aB := aB.fr f8 (by omega)
  have F := F.trans (f8.mono fun x e => by omega)
  refine ax_ireturn f230_19 rfl rfl ?_
  exact ⟨rI_of rfl, ⟨⟨_, _, _, _, _, o⟩, a1, ⟨_, a2, e2⟩, ⟨_, a3, e3⟩, a4, ⟨_, a5⟩, hW, aT, ⟨_, aC⟩, ⟨_, aB⟩⟩, F⟩
theorem m_230_2 {h : am_H} {R : Int → Int} {S : Int → Int → Int} {c : Int} {G : Nat → Int → Int} {b : Int → Int} {T : Int → Int} {L th : Int} (a : Mdl h (R, S, c, G, b, T, L) th) (k : okS (R, S, c, G, b, T, L)) {z : Int} (hz : inI z) (h0 : 0 ≤ z ∧ z < 2) (h1 : ¬ b z = 1) : am_X 2 230 0 (am_ent 230 [.ref 120, .int (iI z)]) [] h (Mot h (0) 2 (R, S, c, G, b, T, L)) := by
  show am_X 2 230 0 [.ref 120, .int (iI z), am_u] [] h _
  obtain ⟨⟨lk, pa, sp, fi, se, o⟩, a1, ⟨g2, a2, e2⟩, ⟨g3, a3, e3⟩, a4, ⟨g5, a5⟩, hW, aT, ⟨gC, aC⟩, gB, aB⟩ := a
  have o : Mo h c th lk pa L sp fi se := o
  have a1 : oI h 121 270 R := a1
  have e2 : ∀ k j, 0 ≤ k → k < c → 0 ≤ j → j < 270 → g2 (270 * k + j) = S k j := e2
  have e3 : ∀ (q : Nat) j, q < 2 → b q = 1 → 0 ≤ j → j < 270 → g3 (270 * q + j) = G q j := e3
  have a4 : oA 2 h 124 2 b := a4
  have aT : oI h 130 120 T := aT
  have i : inv R := k.1
  have iS : ∀ k, 0 ≤ k → k < c → inv (S k) := k.2.1
  have hc : 0 ≤ c ∧ c ≤ 14 := k.2.2.1
  have iG : ∀ q : Nat, q < 2 → b q = 1 → inv (G q) := k.2.2.2.1
  have hb : ∀ j, 0 ≤ j → j < 2 → b j = 0 ∨ b j = 1 := k.2.2.2.2.1
  have hL : 0 ≤ L ∧ L ≤ 120 := k.2.2.2.2.2.1
  have hT : ∀ j, 0 ≤ j → j < L → 0 ≤ T j ∧ T j ≤ 255 := k.2.2.2.2.2.2
  clear k
  have F : fr (fun x => 120 ≤ x ∧ x ≤ 132) h h := fr_rf
  have hbz := hb z h0.1 h0.2
  refine ax_aload_n f230_0 rfl ?_
  refine ax_iconst f230_1 ?_
  refine ax_putfO f230_2 o rfl rfl rfl rfl (fun hp1 o1 r1 => ?_)
  have o : Mo hp1 _ _ _ _ _ _ _ _ := o1
  have a1 := a1.fr r1 (by omega)
  have a2 := a2.fr r1 (by omega)
  have a3 := a3.fr r1 (by omega)
  have a4 := a4.fr r1 (by omega)
  have a5 := a5.fr r1 (by omega)
  have hW := hW.mv r1 (by omega) (by omega) (by omega) (by omega)
  have aT := aT.fr r1 (by omega)
  have aC := aC.fr r1 (by omega)
  have aB := aB.fr r1 (by omega)
  have F := F.trans (r1.mono fun x e => by omega)
  refine ax_iload_n f230_5 rfl ?_
  refine ax_iconst f230_6 ?_
  refine ax_iconst f230_7 ?_
  refine ax_csI (rest := []) f230_8 (Or.inl rfl) rfl rfl rfl rfl rfl rfl (c_145 hz ⟨by decide, by decide⟩ ⟨by decide, by decide⟩) ?_
  intro _ e_
  obtain rfl := e_.symm
  clear e_
  refine ax_nmI (b2i_t (show 0 ≤ z ∧ z ≤ 1 by omega)) ?_
  refine ax_if_ne f230_11 rfl ⟨by omega, by omega⟩ (fun q11 => ?_) (fun q11 => absurd q11 (by omega))
  refine ax_aload_n f230_20 rfl ?_
  refine ax_getf f230_21 o rfl ?_
  refine ax_iload_n f230_24 rfl ?_
  refine ax_baldO f230_25 a4 (by omega) (by omega) rfl ?_
  refine ax_if_ne f230_26 rfl ⟨by omega, by omega⟩ (fun q26 => absurd q26 (by omega)) (fun q26 => ?_)
  refine ax_aload_n f230_29 rfl ?_
  refine ax_iconst f230_30 ?_
  refine ax_cvI (rest := []) f230_31 o rfl rfl rfl rfl rfl rfl rfl rfl (c_144 o) ?_
  rintro h8 ⟨o8, f8⟩
  have o : Mo h8 _ _ _ _ _ _ _ _ := o8
  have a1 := a1.fr f8 (by omega)
  have a2 := a2.fr f8 (by omega)
  have a3 := a3.fr f8 (by omega)
  have a4 := a4.fr f8 (by omega)
  have a5 := a5.fr f8 (by omega)
  have hW := hW.mv f8 (by omega) (by omega) (by omega) (by omega)
  have aT := aT.fr f8 (by omega)
  have aC := aC.fr f8 (by omega)
  have aB := aB.fr f8 (by omega)
  have F := F.trans (f8.mono fun x e => by omega)
  refine ax_ireturn f230_34 rfl rfl ?_
  exact ⟨rI_of rfl, ⟨⟨_, _, _, _, _, o⟩, a1, ⟨_, a2, e2⟩, ⟨_, a3, e3⟩, a4, ⟨_, a5⟩, hW, aT, ⟨_, aC⟩, ⟨_, aB⟩⟩, F⟩
theorem m_230 {h : am_H} {R : Int → Int} {S : Int → Int → Int} {c : Int} {G : Nat → Int → Int} {b : Int → Int} {T : Int → Int} {L th : Int} (a : Mdl h (R, S, c, G, b, T, L) th) (k : okS (R, S, c, G, b, T, L)) {z : Int} (hz : inI z) (h0 : 0 ≤ z ∧ z < 2) (h1 : b z = 1) : am_X 2 230 0 (am_ent 230 [.ref 120, .int (iI z)]) [] h (Mot h (blk (G z.toNat)) 0 (G z.toNat, S, 0, G, b, T, L)) := by
  show am_X 2 230 0 [.ref 120, .int (iI z), am_u] [] h _
  obtain ⟨⟨lk, pa, sp, fi, se, o⟩, a1, ⟨g2, a2, e2⟩, ⟨g3, a3, e3⟩, a4, ⟨g5, a5⟩, hW, aT, ⟨gC, aC⟩, gB, aB⟩ := a
  have o : Mo h c th lk pa L sp fi se := o
  have a1 : oI h 121 270 R := a1
  have e2 : ∀ k j, 0 ≤ k → k < c → 0 ≤ j → j < 270 → g2 (270 * k + j) = S k j := e2
  have e3 : ∀ (q : Nat) j, q < 2 → b q = 1 → 0 ≤ j → j < 270 → g3 (270 * q + j) = G q j := e3
  have a4 : oA 2 h 124 2 b := a4
  have aT : oI h 130 120 T := aT
  have i : inv R := k.1
  have iS : ∀ k, 0 ≤ k → k < c → inv (S k) := k.2.1
  have hc : 0 ≤ c ∧ c ≤ 14 := k.2.2.1
  have iG : ∀ q : Nat, q < 2 → b q = 1 → inv (G q) := k.2.2.2.1
  have hb : ∀ j, 0 ≤ j → j < 2 → b j = 0 ∨ b j = 1 := k.2.2.2.2.1
  have hL : 0 ≤ L ∧ L ≤ 120 := k.2.2.2.2.2.1
  have hT : ∀ j, 0 ≤ j → j < L → 0 ≤ T j ∧ T j ≤ 255 := k.2.2.2.2.2.2
  clear k
  have F : fr (fun x => 120 ≤ x ∧ x ≤ 132) h h := fr_rf
  have hbz := hb z h0.1 h0.2
  have ezN : ((z.toNat : Nat) : Int) = z := by omega
  have hsz : ∀ j, 0 ≤ j → j < 270 → g3 (270 * z + j) = G z.toNat j := fun j j1 j2 => by
    have := e3 z.toNat j (by omega) (by rw [ezN]; exact h1) j1 j2
    rw [ezN] at this
    exact this
  refine ax_aload_n f230_0 rfl ?_
  refine ax_iconst f230_1 ?_
  refine ax_putfO f230_2 o rfl rfl rfl rfl (fun hp1 o1 r1 => ?_)
  have o : Mo hp1 _ _ _ _ _ _ _ _ := o1
  have a1 := a1.fr r1 (by omega)
  have a2 := a2.fr r1 (by omega)
  have a3 := a3.fr r1 (by omega)
  have a4 := a4.fr r1 (by omega)
  have a5 := a5.fr r1 (by omega)
  have hW := hW.mv r1 (by omega) (by omega) (by omega) (by omega)
  have aT := aT.fr r1 (by omega)
  have aC := aC.fr r1 (by omega)
  have aB := aB.fr r1 (by omega)
  have F := F.trans (r1.mono fun x e => by omega)
  refine ax_iload_n f230_5 rfl ?_
  refine ax_iconst f230_6 ?_
  refine ax_iconst f230_7 ?_
  refine ax_csI (rest := []) f230_8 (Or.inl rfl) rfl rfl rfl rfl rfl rfl (c_145 hz ⟨by decide, by decide⟩ ⟨by decide, by decide⟩) ?_
  intro _ e_
  obtain rfl := e_.symm
  clear e_
  refine ax_nmI (b2i_t (show 0 ≤ z ∧ z ≤ 1 by omega)) ?_
  refine ax_if_ne f230_11 rfl ⟨by omega, by omega⟩ (fun q11 => ?_) (fun q11 => absurd q11 (by omega))
  refine ax_aload_n f230_20 rfl ?_
  refine ax_getf f230_21 o rfl ?_
  refine ax_iload_n f230_24 rfl ?_
  refine ax_baldO f230_25 a4 (by omega) (by omega) rfl ?_
  refine ax_if_ne f230_26 rfl ⟨by omega, by omega⟩ (fun q26 => ?_) (fun q26 => absurd q26 (by omega))
  refine ax_iconst f230_35 ?_
  refine ax_istore_n (ls' := [_, _, _]) f230_36 (Nat.le_of_ble_eq_true rfl) rfl ?_
  refine lp_230 (d := 2) (R := G z.toNat) (z := z) (by omega) o a3 hsz 270 0 (by omega) (by omega) _ a1 (fun j j1 j2 => by omega) ?_
  intro h9 a9 f9
  have o : Mo h9 _ _ _ _ _ _ _ _ := f9.at (q := 120) (by omega) o
  have a1 := a9
  have a2 := a2.fr f9 (by omega)
  have a3 := a3.fr f9 (by omega)
  have a4 := a4.fr f9 (by omega)
  have a5 := a5.fr f9 (by omega)
  have hW := hW.mv f9 (by omega) (by omega) (by omega) (by omega)
  have aT := aT.fr f9 (by omega)
  have aC := aC.fr f9 (by omega)
  have aB := aB.fr f9 (by omega)
  have F := F.trans (f9.mono fun x e => by omega)
  have e2 : ∀ k j, (0 : Int) ≤ k → k < 0 → 0 ≤ j → j < 270 → g2 (270 * k + j) = S k j := fun k j k1 k2 => by omega
  refine ax_aload_n f230_68 rfl ?_
  refine ax_iconst f230_69 ?_
  refine ax_putfO f230_70 o rfl rfl rfl rfl (fun hp11 o11 r11 => ?_)
  have o : Mo hp11 _ _ _ _ _ _ _ _ := o11
  have a1 := a1.fr r11 (by omega)
  have a2 := a2.fr r11 (by omega)
  have a3 := a3.fr r11 (by omega)
  have a4 := a4.fr r11 (by omega)
  have a5 := a5.fr r11 (by omega)
  have hW := hW.mv r11 (by omega) (by omega) (by omega) (by omega)
  have aT := aT.fr r11 (by omega)
  have aC := aC.fr r11 (by omega)
  have aB := aB.fr r11 (by omega)
  have F := F.trans (r11.mono fun x e => by omega)
  refine ax_aload_n f230_73 rfl ?_
  refine ax_cvI (rest := []) f230_74 o rfl rfl rfl rfl rfl rfl rfl rfl (c_151 o a1) ?_
  intro _ e_
  obtain rfl := e_.symm
  clear e_
  refine ax_ireturn f230_77 rfl rfl ?_
  exact ⟨rI_of rfl, ⟨⟨_, _, _, _, _, o⟩, a1, ⟨_, a2, e2⟩, ⟨_, a3, e3⟩, a4, ⟨_, a5⟩, hW, aT, ⟨_, aC⟩, ⟨_, aB⟩⟩, F⟩
end MPV
