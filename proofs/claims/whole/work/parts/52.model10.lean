/-! ===== the whole of the reference ===== -/
section MPU
def Mdl (h : am_H) (s : St) (th : Int) : Prop := (∃ lk pa sp fi se, Mo h s.2.2.1 th lk pa s.2.2.2.2.2.2 sp fi se) ∧ oI h 121 270 s.1 ∧ (∃ g, oI h 122 3780 g ∧ ∀ k j, 0 ≤ k → k < s.2.2.1 → 0 ≤ j → j < 270 → g (270 * k + j) = s.2.1 k j) ∧ (∃ g, oI h 123 540 g ∧ ∀ (q : Nat) j, q < 2 → s.2.2.2.2.1 q = 1 → 0 ≤ j → j < 270 → g (270 * q + j) = s.2.2.2.1 q j) ∧ oA 2 h 124 2 s.2.2.2.2.1 ∧ (∃ g, oI h 125 270 g) ∧ Wk h ∧ oI h 130 120 s.2.2.2.2.2.1 ∧ (∃ g, oI h 131 2401 g) ∧ ∃ g, oA 2 h 132 4753 g
/-- how calls of the reference end -/
def Mot (h : am_H) (v th : Int) (s : St) (r : am_R) (h' : am_H) : Prop := rI r v ∧ Mdl h' s th ∧ fr (fun x => 120 ≤ x ∧ x ≤ 132) h h'
theorem inv.in192 {R : Int → Int} (i : inv R) : inI (R 192) := by have := i.td; exact ⟨by omega, by omega⟩
theorem c_144 {h : am_H} {c th lk pa le sp fi se : Int} (o : Mo h c th lk pa le sp fi se) {z : Int} : am_X 0 144 0 (am_ent 144 [.ref 120, .int (iI z)]) [] h (fun r h' => rI r 0 ∧ Mo h' c z lk pa le sp fi se ∧ fr (fun x => x = 120) h h') := by
  show am_X 0 144 0 [.ref 120, .int (iI z)] [] h _
  have F : fr (fun x => x = 120) h h := fr_rf
  refine ax_aload_n f144_0 rfl ?_
  refine ax_iload_n f144_1 rfl ?_
  refine ax_putfO f144_2 o rfl rfl rfl rfl (fun hp1 o1 r1 => ?_)
  have o : Mo hp1 _ _ _ _ _ _ _ _ := o1
  have F := F.trans (r1.mono fun x e => by omega)
  refine ax_iconst f144_5 ?_
  refine ax_ireturn f144_6 rfl rfl ?_
  exact ⟨rI_of rfl, o, F⟩
theorem m_182_1 {h : am_H} {R : Int → Int} {S : Int → Int → Int} {c : Int} {G : Nat → Int → Int} {b : Int → Int} {T : Int → Int} {L th : Int} (a : Mdl h (R, S, c, G, b, T, L) th) (k : okS (R, S, c, G, b, T, L)) {z : Int} (hz : inI z) (h0 : ¬ (0 ≤ z ∧ z ≤ 255)) : am_X 2 182 0 (am_ent 182 [.ref 120, .int (iI z)]) [] h (Mot h (0) 1 (R, S, c, G, b, T, L)) := by
  show am_X 2 182 0 [.ref 120, .int (iI z)] [] h _
  obtain ⟨⟨lk, pa, sp, fi, se, o⟩, a1, ⟨g2, a2, e2⟩, ⟨g3, a3, e3⟩, a4, ⟨g5, a5⟩, hW, aT, ⟨gC, aC⟩, gB, aB⟩ := a
  have o : Mo h c th lk pa L sp fi se := o
  have a1 : oI h 121 270 R := a1
  have e2 : ∀ k j, 0 ≤ k → k < c → 0 ≤ j → j < 270 → g2 (270 * k + j) = S k j := e2
  have e3 : ∀ (q : Nat) j, q < 2 → b q = 1 → 0 ≤ j → j < 270 → g3 (270 * q + j) = G q j := e3
  have a4 : oA 2 h 124 2 b := a4
  have aT : oI h 130 120 T := aT
  have i : inv R := k.1
  have iS : ∀ k, 0 ≤ k → k < c → inv (S k) := k.2.1
  have hc : 0 ≤ c ∧ c ≤ 14 := k.2.2.1
  have iG : ∀ q : Nat, q < 2 → b q = 1 → inv (G q) := k.2.2.2.1
  have hb : ∀ j, 0 ≤ j → j < 2 → b j = 0 ∨ b j = 1 := k.2.2.2.2.1
  have hL : 0 ≤ L ∧ L ≤ 120 := k.2.2.2.2.2.1
  have hT : ∀ j, 0 ≤ j → j < L → 0 ≤ T j ∧ T j ≤ 255 := k.2.2.2.2.2.2
  clear k
  have F : fr (fun x => 120 ≤ x ∧ x ≤ 132) h h := fr_rf
  refine ax_aload_n f182_0 rfl ?_
  refine ax_iconst f182_1 ?_
  refine ax_putfO f182_2 o rfl rfl rfl rfl (fun hp1 o1 r1 => ?_)
  have o : Mo hp1 _ _ _ _ _ _ _ _ := o1
  have a1 := a1.fr r1 (by omega)
  have a2 := a2.fr r1 (by omega)
  have a3 := a3.fr r1 (by omega)
  have a4 := a4.fr r1 (by omega)
  have a5 := a5.fr r1 (by omega)
  have hW := hW.mv r1 (by omega) (by omega) (by omega) (by omega)
  have aT := aT.fr r1 (by omega)
  have aC := aC.fr r1 (by omega)
  have aB := aB.fr r1 (by omega)
  have F := F.trans (r1.mono fun x e => by omega)
  refine ax_iload_n f182_5 rfl ?_
  refine ax_iconst f182_6 ?_
  refine ax_sipush f182_7 ?_
  refine ax_csI (rest := []) f182_10 (Or.inl rfl) rfl rfl rfl rfl rfl rfl (c_145 hz ⟨by decide, by decide⟩ ⟨by decide, by decide⟩) ?_
  intro _ e_
  obtain rfl := e_.symm
  clear e_
  refine ax_nmI (b2i_f h0) ?_
  refine ax_if_ne f182_13 rfl ⟨by omega, by omega⟩ (fun q13 => absurd q13 (by omega)) (fun q13 => ?_)
  refine ax_aload_n f182_16 rfl ?_
  refine ax_iconst f182_17 ?_
  refine ax_cvI (rest := []) f182_18 o rfl rfl rfl rfl rfl rfl rfl rfl (c_144 o) ?_
  rintro h8 ⟨o8, f8⟩
  have o : Mo h8 _ _ _ _ _ _ _ _ := o8
  have a1 := a1.fr f8 (by omega)
  have a2 := a2.fr f8 (by omega)
  have a3 := a3.fr f8 (by omega)
  have a4 := a4.fr f8 (by omega)
  have a5 := a5.fr f8 (by omega)
  have hW := hW.mv f8 (by omega) (by omega) (by omega) (by omega)
  have aT := aT.fr f8 (by omega)
  have aC := aC.fr f8 (by omega)
  have aB := aB.fr f8 (by omega)
  have F := F.trans (f8.mono fun x e => by omega)
  refine ax_ireturn f182_21 rfl rfl ?_
  exact ⟨rI_of rfl, ⟨⟨_, _, _, _, _, o⟩, a1, ⟨_, a2, e2⟩, ⟨_, a3, e3⟩, a4, ⟨_, a5⟩, hW, aT, ⟨_, aC⟩, ⟨_, aB⟩⟩, F⟩
theorem m_182_2 {h : am_H} {R : Int → Int} {S : Int → Int → Int} {c : Int} {G : Nat → Int → Int} {b : Int → Int} {T : Int → Int} {L th : Int} (a : Mdl h (R, S, c, G, b, T, L) th) (k : okS (R, S, c, G, b, T, L)) {z : Int} (h0 : 0 ≤ z ∧ z ≤ 255) (h1 : L = 120) : am_X 2 182 0 (am_ent 182 [.ref 120, .int (iI z)]) [] h (Mot h (0) 2 (R, S, c, G, b, T, L)) := by
  show am_X 2 182 0 [.ref 120, .int (iI z)] [] h _
  obtain ⟨⟨lk, pa, sp, fi, se, o⟩, a1, ⟨g2, a2, e2⟩, ⟨g3, a3, e3⟩, a4, ⟨g5, a5⟩, hW, aT, ⟨gC, aC⟩, gB, aB⟩ := a
  have o : Mo h c th lk pa L sp fi se := o
  have a1 : oI h 121 270 R := a1
  have e2 : ∀ k j, 0 ≤ k → k < c → 0 ≤ j → j < 270 → g2 (270 * k + j) = S k j := e2
  have e3 : ∀ (q : Nat) j, q < 2 → b q = 1 → 0 ≤ j → j < 270 → g3 (270 * q + j) = G q j := e3
  have a4 : oA 2 h 124 2 b := a4
  have aT : oI h 130 120 T := aT
  have i : inv R := k.1
  have iS : ∀ k, 0 ≤ k → k < c → inv (S k) := k.2.1
  have hc : 0 ≤ c ∧ c ≤ 14 := k.2.2.1
  have iG : ∀ q : Nat, q < 2 → b q = 1 → inv (G q) := k.2.2.2.1
  have hb : ∀ j, 0 ≤ j → j < 2 → b j = 0 ∨ b j = 1 := k.2.2.2.2.1
  have hL : 0 ≤ L ∧ L ≤ 120 := k.2.2.2.2.2.1
  have hT : ∀ j, 0 ≤ j → j < L → 0 ≤ T j ∧ T j ≤ 255 := k.2.2.2.2.2.2
  clear k
  have F : fr (fun x => 120 ≤ x ∧ x ≤ 132) h h := fr_rf
  have hz : inI z := ⟨by omega, by omega⟩
  refine ax_aload_n f182_0 rfl ?_
  refine ax_iconst f182_1 ?_
  refine ax_putfO f182_2 o rfl rfl rfl rfl (fun hp1 o1 r1 => ?_)
  have o : Mo hp1 _ _ _ _ _ _ _ _ := o1
  have a1 := a1.fr r1 (by omega)
  have a2 := a2.fr r1 (by omega)
  have a3 := a3.fr r1 (by omega)
  have a4 := a4.fr r1 (by omega)
  have a5 := a5.fr r1 (by omega)
  have hW := hW.mv r1 (by omega) (by omega) (by omega) (by omega)
  have aT := aT.fr r1 (by omega)
  have aC := aC.fr r1 (by omega)
  have aB := aB.fr r1 (by omega)
  have F := F.trans (r1.mono fun x e => by omega)
  refine ax_iload_n f182_5 rfl ?_
  refine ax_iconst f182_6 ?_
  refine ax_sipush f182_7 ?_
  refine ax_csI (rest := []) f182_10 (Or.inl rfl) rfl rfl rfl rfl rfl rfl (c_145 hz ⟨by decide, by decide⟩ ⟨by decide, by decide⟩) ?_
  intro _ e_
  obtain rfl := e_.symm
  clear e_
  refine ax_nmI (b2i_t h0) ?_
  refine ax_if_ne f182_13 rfl ⟨by omega, by omega⟩ (fun q13 => ?_) (fun q13 => absurd q13 (by omega))
  refine ax_aload_n f182_22 rfl ?_
  refine ax_getf f182_23 o rfl ?_
  refine ax_bipush f182_26 ?_
  refine ax_icmp_ne f182_28 rfl ⟨by omega, by omega⟩ ⟨by omega, by omega⟩ (fun q28 => absurd q28 (by omega)) (fun q28 => ?_)
  refine ax_aload_n f182_31 rfl ?_
  refine ax_iconst f182_32 ?_
  refine ax_cvI (rest := []) f182_33 o rfl rfl rfl rfl rfl rfl rfl rfl (c_144 o) ?_
  rintro h8 ⟨o8, f8⟩
  have o : Mo h8 _ _ _ _ _ _ _ _ := o8
  have a1 := a1.fr f8 (by omega)
  have a2 := a2.fr f8 (by omega)
  have a3 := a3.fr f8 (by omega)
  have a4 := a4.fr f8 (by omega)
  have a5 := a5.fr f8 (by omega)
  have hW := hW.mv f8 (by omega) (by omega) (by omega) (by omega)
  have aT := aT.fr f8 (by omega)
  have aC := aC.fr f8 (by omega)
  have aB := aB.fr f8 (by omega)
  have F := F.trans (f8.mono fun x e => by omega)
  refine ax_ireturn f182_36 rfl rfl ?_
  exact ⟨rI_of rfl, ⟨⟨_, _, _, _, _, o⟩, a1, ⟨_, a2, e2⟩, ⟨_, a3, e3⟩, a4, ⟨_, a5⟩, hW, aT, ⟨_, aC⟩, ⟨_, aB⟩⟩, F⟩
theorem m_182 {h : am_H} {R : Int → Int} {S : Int → Int → Int} {c : Int} {G : Nat → Int → Int} {b : Int → Int} {T : Int → Int} {L th : Int} (a : Mdl h (R, S, c, G, b, T, L) th) (k : okS (R, S, c, G, b, T, L)) {z : Int} (h0 : 0 ≤ z ∧ z ≤ 255) (h1 : L < 120) : am_X 2 182 0 (am_ent 182 [.ref 120, .int (iI z)]) [] h (Mot h (L + 1) 0 (R, S, c, G, b, uZ T L z, L + 1)) := by
  show am_X 2 182 0 [.ref 120, .int (iI z)] [] h _
  obtain ⟨⟨lk, pa, sp, fi, se, o⟩, a1, ⟨g2, a2, e2⟩, ⟨g3, a3, e3⟩, a4, ⟨g5, a5⟩, hW, aT, ⟨gC, aC⟩, gB, aB⟩ := a
  have o : Mo h c th lk pa L sp fi se := o
  have a1 : oI h 121 270 R := a1
  have e2 : ∀ k j, 0 ≤ k → k < c → 0 ≤ j → j < 270 → g2 (270 * k + j) = S k j := e2
  have e3 : ∀ (q : Nat) j, q < 2 → b q = 1 → 0 ≤ j → j < 270 → g3 (270 * q + j) = G q j := e3
  have a4 : oA 2 h 124 2 b := a4
  have aT : oI h 130 120 T := aT
  have i : inv R := k.1
  have iS : ∀ k, 0 ≤ k → k < c → inv (S k) := k.2.1
  have hc : 0 ≤ c ∧ c ≤ 14 := k.2.2.1
  have iG : ∀ q : Nat, q < 2 → b q = 1 → inv (G q) := k.2.2.2.1
  have hb : ∀ j, 0 ≤ j → j < 2 → b j = 0 ∨ b j = 1 := k.2.2.2.2.1
  have hL : 0 ≤ L ∧ L ≤ 120 := k.2.2.2.2.2.1
  have hT : ∀ j, 0 ≤ j → j < L → 0 ≤ T j ∧ T j ≤ 255 := k.2.2.2.2.2.2
  clear k
  have F : fr (fun x => 120 ≤ x ∧ x ≤ 132) h h := fr_rf
  have hz : inI z := ⟨by omega, by omega⟩
  refine ax_aload_n f182_0 rfl ?_
  refine ax_iconst f182_1 ?_
  refine ax_putfO f182_2 o rfl rfl rfl rfl (fun hp1 o1 r1 => ?_)
  have o : Mo hp1 _ _ _ _ _ _ _ _ := o1
  have a1 := a1.fr r1 (by omega)
  have a2 := a2.fr r1 (by omega)
  have a3 := a3.fr r1 (by omega)
  have a4 := a4.fr r1 (by omega)
  have a5 := a5.fr r1 (by omega)
  have hW := hW.mv r1 (by omega) (by omega) (by omega) (by omega)
  have aT := aT.fr r1 (by omega)
  have aC := aC.fr r1 (by omega)
  have aB := aB.fr r1 (by omega)
  have F := F.trans (r1.mono fun x e => by omega)
  refine ax_iload_n f182_5 rfl ?_
  refine ax_iconst f182_6 ?_
  refine ax_sipush f182_7 ?_
  refine ax_csI (rest := []) f182_10 (Or.inl rfl) rfl rfl rfl rfl rfl rfl (c_145 hz ⟨by decide, by decide⟩ ⟨by decide, by decide⟩) ?_
  intro _ e_
  obtain rfl := e_.symm
  clear e_
  refine ax_nmI (b2i_t h0) ?_
  refine ax_if_ne f182_13 rfl ⟨by omega, by omega⟩ (fun q13 => ?_) (fun q13 => absurd q13 (by omega))
  refine ax_aload_n f182_22 rfl ?_
  refine ax_getf f182_23 o rfl ?_
  refine ax_bipush f182_26 ?_
  refine ax_icmp_ne f182_28 rfl ⟨by omega, by omega⟩ ⟨by omega, by omega⟩ (fun q28 => ?_) (fun q28 => absurd q28 (by omega))
  refine ax_aload_n f182_37 rfl ?_
  refine ax_getf f182_38 o rfl ?_
  refine ax_aload_n f182_41 rfl ?_
  refine ax_getf f182_42 o rfl ?_
  refine ax_iload_n f182_45 rfl ?_
  refine ax_iastO f182_46 aT (by omega) (by omega) rfl (fun hp2 o2 r2 => ?_)
  have o : Mo hp2 _ _ _ _ _ _ _ _ := r2.at (q := 120) (by omega) o
  have a1 := a1.fr r2 (by omega)
  have a2 := a2.fr r2 (by omega)
  have a3 := a3.fr r2 (by omega)
  have a4 := a4.fr r2 (by omega)
  have a5 := a5.fr r2 (by omega)
  have hW := hW.mv r2 (by omega) (by omega) (by omega) (by omega)
  have aT := o2
  have aC := aC.fr r2 (by omega)
  have aB := aB.fr r2 (by omega)
  have F := F.trans (r2.mono fun x e => by omega)
  refine ax_aload_n f182_47 rfl ?_
  refine ax_dup f182_48 rfl ?_
  refine ax_getf f182_49 o rfl ?_
  refine ax_iconst f182_52 ?_
  refine ax_iadd f182_53 ?_
  refine ax_putfO f182_54 o rfl rfl rfl rfl (fun hp3 o3 r3 => ?_)
  have o : Mo hp3 _ _ _ _ _ _ _ _ := o3
  have a1 := a1.fr r3 (by omega)
  have a2 := a2.fr r3 (by omega)
  have a3 := a3.fr r3 (by omega)
  have a4 := a4.fr r3 (by omega)
  have a5 := a5.fr r3 (by omega)
  have hW := hW.mv r3 (by omega) (by omega) (by omega) (by omega)
  have aT := aT.fr r3 (by omega)
  have aC := aC.fr r3 (by omega)
  have aB := aB.fr r3 (by omega)
  have F := F.trans (r3.mono fun x e => by omega)
  refine ax_aload_n f182_57 rfl ?_
  refine ax_getf f182_58 o rfl ?_
  refine ax_ireturn f182_61 rfl rfl ?_
  exact ⟨rI_of rfl, ⟨⟨_, _, _, _, _, o⟩, a1, ⟨_, a2, e2⟩, ⟨_, a3, e3⟩, a4, ⟨_, a5⟩, hW, aT, ⟨_, aC⟩, ⟨_, aB⟩⟩, F⟩
theorem m_183 {h : am_H} {R : Int → Int} {S : Int → Int → Int} {c : Int} {G : Nat → Int → Int} {b : Int → Int} {T : Int → Int} {L th : Int} (a : Mdl h (R, S, c, G, b, T, L) th) (k : okS (R, S, c, G, b, T, L))  : am_X 2 183 0 (am_ent 183 [.ref 120]) [] h (Mot h (L) 0 (R, S, c, G, b, T, 0)) := by
  show am_X 2 183 0 [.ref 120, am_u] [] h _
  obtain ⟨⟨lk, pa, sp, fi, se, o⟩, a1, ⟨g2, a2, e2⟩, ⟨g3, a3, e3⟩, a4, ⟨g5, a5⟩, hW, aT, ⟨gC, aC⟩, gB, aB⟩ := a
  have o : Mo h c th lk pa L sp fi se := o
  have a1 : oI h 121 270 R := a1
  have e2 : ∀ k j, 0 ≤ k → k < c → 0 ≤ j → j < 270 → g2 (270 * k + j) = S k j := e2
  have e3 : ∀ (q : Nat) j, q < 2 → b q = 1 → 0 ≤ j → j < 270 → g3 (270 * q + j) = G q j := e3
  have a4 : oA 2 h 124 2 b := a4
  have aT : oI h 130 120 T := aT
  have i : inv R := k.1
  have iS : ∀ k, 0 ≤ k → k < c → inv (S k) := k.2.1
  have hc : 0 ≤ c ∧ c ≤ 14 := k.2.2.1
  have iG : ∀ q : Nat, q < 2 → b q = 1 → inv (G q) := k.2.2.2.1
  have hb : ∀ j, 0 ≤ j → j < 2 → b j = 0 ∨ b j = 1 := k.2.2.2.2.1
  have hL : 0 ≤ L ∧ L ≤ 120 := k.2.2.2.2.2.1
  have hT : ∀ j, 0 ≤ j → j < L → 0 ≤ T j ∧ T j ≤ 255 := k.2.2.2.2.2.2
  clear k
  have F : fr (fun x => 120 ≤ x ∧ x ≤ 132) h h := fr_rf
  refine ax_aload_n f183_0 rfl ?_
  refine ax_iconst f183_1 ?_
  refine ax_putfO f183_2 o rfl rfl rfl rfl (fun hp1 o1 r1 => ?_)
  have o : Mo hp1 _ _ _ _ _ _ _ _ := o1
  have a1 := a1.fr r1 (by omega)
  have a2 := a2.fr r1 (by omega)
  have a3 := a3.fr r1 (by omega)
  have a4 := a4.fr r1 (by omega)
  have a5 := a5.fr r1 (by omega)
  have hW := hW.mv r1 (by omega) (by omega) (by omega) (by omega)
  have aT := aT.fr r1 (by omega)
  have aC := aC.fr r1 (by omega)
  have aB := aB.fr r1 (by omega)
  have F := F.trans (r1.mono fun x e => by omega)
  refine ax_aload_n f183_5 rfl ?_
  refine ax_getf f183_6 o rfl ?_
  refine ax_istore_n (ls' := [_, _]) f183_9 (Nat.le_of_ble_eq_true rfl) rfl ?_
  refine ax_aload_n f183_10 rfl ?_
  refine ax_iconst f183_11 ?_
  refine ax_putfO f183_12 o rfl rfl rfl rfl (fun hp2 o2 r2 => ?_)
  have o : Mo hp2 _ _ _ _ _ _ _ _ := o2
  have a1 := a1.fr r2 (by omega)
  have a2 := a2.fr r2 (by omega)
  have a3 := a3.fr r2 (by omega)
  have a4 := a4.fr r2 (by omega)
  have a5 := a5.fr r2 (by omega)
  have hW := hW.mv r2 (by omega) (by omega) (by omega) (by omega)
  have aT := aT.fr r2 (by omega)
  have aC := aC.fr r2 (by omega)
  have aB := aB.fr r2 (by omega)
  have F := F.trans (r2.mono fun x e => by omega)
  refine ax_iload_n f183_15 rfl ?_
  refine ax_ireturn f183_16 rfl rfl ?_
  exact ⟨rI_of rfl, ⟨⟨_, _, _, _, _, o⟩, a1, ⟨_, a2, e2⟩, ⟨_, a3, e3⟩, a4, ⟨_, a5⟩, hW, aT, ⟨_, aC⟩, ⟨_, aB⟩⟩, F⟩
theorem m_191 {h : am_H} {R : Int → Int} {S : Int → Int → Int} {c : Int} {G : Nat → Int → Int} {b : Int → Int} {T : Int → Int} {L th : Int} (a : Mdl h (R, S, c, G, b, T, L) th) (k : okS (R, S, c, G, b, T, L))  : am_X 6 191 0 (am_ent 191 [.ref 120]) [] h (Mot h (errP T L) 0 (R, S, c, G, b, T, L)) := by
  show am_X 6 191 0 [.ref 120] [] h _
  obtain ⟨⟨lk, pa, sp, fi, se, o⟩, a1, ⟨g2, a2, e2⟩, ⟨g3, a3, e3⟩, a4, ⟨g5, a5⟩, hW, aT, ⟨gC, aC⟩, gB, aB⟩ := a
  have o : Mo h c th lk pa L sp fi se := o
  have a1 : oI h 121 270 R := a1
  have e2 : ∀ k j, 0 ≤ k → k < c → 0 ≤ j → j < 270 → g2 (270 * k + j) = S k j := e2
  have e3 : ∀ (q : Nat) j, q < 2 → b q = 1 → 0 ≤ j → j < 270 → g3 (270 * q + j) = G q j := e3
  have a4 : oA 2 h 124 2 b := a4
  have aT : oI h 130 120 T := aT
  have i : inv R := k.1
  have iS : ∀ k, 0 ≤ k → k < c → inv (S k) := k.2.1
  have hc : 0 ≤ c ∧ c ≤ 14 := k.2.2.1
  have iG : ∀ q : Nat, q < 2 → b q = 1 → inv (G q) := k.2.2.2.1
  have hb : ∀ j, 0 ≤ j → j < 2 → b j = 0 ∨ b j = 1 := k.2.2.2.2.1
  have hL : 0 ≤ L ∧ L ≤ 120 := k.2.2.2.2.2.1
  have hT : ∀ j, 0 ≤ j → j < L → 0 ≤ T j ∧ T j ≤ 255 := k.2.2.2.2.2.2
  clear k
  have F : fr (fun x => 120 ≤ x ∧ x ≤ 132) h h := fr_rf
  refine ax_aload_n f191_0 rfl ?_
  refine ax_iconst f191_1 ?_
  refine ax_putfO f191_2 o rfl rfl rfl rfl (fun hp1 o1 r1 => ?_)
  have o : Mo hp1 _ _ _ _ _ _ _ _ := o1
  have a1 := a1.fr r1 (by omega)
  have a2 := a2.fr r1 (by omega)
  have a3 := a3.fr r1 (by omega)
  have a4 := a4.fr r1 (by omega)
  have a5 := a5.fr r1 (by omega)
  have hW := hW.mv r1 (by omega) (by omega) (by omega) (by omega)
  have aT := aT.fr r1 (by omega)
  have aC := aC.fr r1 (by omega)
  have aB := aB.fr r1 (by omega)
  have F := F.trans (r1.mono fun x e => by omega)
  refine ax_aload_n f191_5 rfl ?_
  refine ax_cvI (rest := []) f191_6 o rfl rfl rfl rfl rfl rfl rfl rfl (c_190 o aT hL hT) ?_
  rintro h8 ⟨⟨sp8, fi8, se8, o8⟩, f8⟩
  have o : Mo h8 _ _ _ _ _ _ _ _ := o8
  have a1 := a1.fr f8 (by omega)
  have a2 := a2.fr f8 (by omega)
  have a3 := a3.fr f8 (by omega)
  have a4 := a4.fr f8 (by omega)
  have a5 := a5.fr f8 (by omega)
  have hW := hW.mv f8 (by omega) (by omega) (by omega) (by omega)
  have aT := aT.fr f8 (by omega)
  have aC := aC.fr f8 (by omega)
  have aB := aB.fr f8 (by omega)
  have F := F.trans (f8.mono fun x e => by omega)
  refine ax_ireturn f191_9 rfl rfl ?_
  exact ⟨rI_of rfl, ⟨⟨_, _, _, _, _, o⟩, a1, ⟨_, a2, e2⟩, ⟨_, a3, e3⟩, a4, ⟨_, a5⟩, hW, aT, ⟨_, aC⟩, ⟨_, aB⟩⟩, F⟩
theorem m_193_1 {h : am_H} {R : Int → Int} {S : Int → Int → Int} {c : Int} {G : Nat → Int → Int} {b : Int → Int} {T : Int → Int} {L th : Int} (a : Mdl h (R, S, c, G, b, T, L) th) (k : okS (R, S, c, G, b, T, L)) (h0 : ¬ errP T L = -1) : am_X 10 193 0 (am_ent 193 [.ref 120]) [] h (Mot h (0) 1 (R, S, c, G, b, T, L)) := by
  show am_X 10 193 0 [.ref 120, am_u, am_u, am_u] [] h _
  obtain ⟨⟨lk, pa, sp, fi, se, o⟩, a1, ⟨g2, a2, e2⟩, ⟨g3, a3, e3⟩, a4, ⟨g5, a5⟩, hW, aT, ⟨gC, aC⟩, gB, aB⟩ := a
  have o : Mo h c th lk pa L sp fi se := o
  have a1 : oI h 121 270 R := a1
  have e2 : ∀ k j, 0 ≤ k → k < c → 0 ≤ j → j < 270 → g2 (270 * k + j) = S k j := e2
  have e3 : ∀ (q : Nat) j, q < 2 → b q = 1 → 0 ≤ j → j < 270 → g3 (270 * q + j) = G q j := e3
  have a4 : oA 2 h 124 2 b := a4
  have aT : oI h 130 120 T := aT
  have i : inv R := k.1
  have iS : ∀ k, 0 ≤ k → k < c → inv (S k) := k.2.1
  have hc : 0 ≤ c ∧ c ≤ 14 := k.2.2.1
  have iG : ∀ q : Nat, q < 2 → b q = 1 → inv (G q) := k.2.2.2.1
  have hb : ∀ j, 0 ≤ j → j < 2 → b j = 0 ∨ b j = 1 := k.2.2.2.2.1
  have hL : 0 ≤ L ∧ L ≤ 120 := k.2.2.2.2.2.1
  have hT : ∀ j, 0 ≤ j → j < L → 0 ≤ T j ∧ T j ≤ 255 := k.2.2.2.2.2.2
  clear k
  have F : fr (fun x => 120 ≤ x ∧ x ≤ 132) h h := fr_rf
  have hE := epl_in (T := T) (L := L) hL.2 120 1 (by omega)
  have hE : -1 ≤ errP T L ∧ errP T L ≤ 130 := by unfold errP; split <;> omega
  refine ax_aload_n f193_0 rfl ?_
  refine ax_iconst f193_1 ?_
  refine ax_putfO f193_2 o rfl rfl rfl rfl (fun hp1 o1 r1 => ?_)
  have o : Mo hp1 _ _ _ _ _ _ _ _ := o1
  have a1 := a1.fr r1 (by omega)
  have a2 := a2.fr r1 (by omega)
  have a3 := a3.fr r1 (by omega)
  have a4 := a4.fr r1 (by omega)
  have a5 := a5.fr r1 (by omega)
  have hW := hW.mv r1 (by omega) (by omega) (by omega) (by omega)
  have aT := aT.fr r1 (by omega)
  have aC := aC.fr r1 (by omega)
  have aB := aB.fr r1 (by omega)
  have F := F.trans (r1.mono fun x e => by omega)
  refine ax_aload_n f193_5 rfl ?_
  refine ax_cvI (rest := []) f193_6 o rfl rfl rfl rfl rfl rfl rfl rfl (c_190 o aT hL hT) ?_
  rintro h8 ⟨⟨sp8, fi8, se8, o8⟩, f8⟩
  have o : Mo h8 _ _ _ _ _ _ _ _ := o8
  have a1 := a1.fr f8 (by omega)
  have a2 := a2.fr f8 (by omega)
  have a3 := a3.fr f8 (by omega)
  have a4 := a4.fr f8 (by omega)
  have a5 := a5.fr f8 (by omega)
  have hW := hW.mv f8 (by omega) (by omega) (by omega) (by omega)
  have aT := aT.fr f8 (by omega)
  have aC := aC.fr f8 (by omega)
  have aB := aB.fr f8 (by omega)
  have F := F.trans (f8.mono fun x e => by omega)
  refine ax_iconst f193_9 ?_
  refine ax_icmp_eq f193_10 rfl ⟨by omega, by omega⟩ ⟨by omega, by omega⟩ (fun q10 => absurd q10 (by omega)) (fun q10 => ?_)
  refine ax_aload_n f193_13 rfl ?_
  refine ax_iconst f193_14 ?_
  refine ax_cvI (rest := []) f193_15 o rfl rfl rfl rfl rfl rfl rfl rfl (c_144 o) ?_
  rintro h8 ⟨o8, f8⟩
  have o : Mo h8 _ _ _ _ _ _ _ _ := o8
  have a1 := a1.fr f8 (by omega)
  have a2 := a2.fr f8 (by omega)
  have a3 := a3.fr f8 (by omega)
  have a4 := a4.fr f8 (by omega)
  have a5 := a5.fr f8 (by omega)
  have hW := hW.mv f8 (by omega) (by omega) (by omega) (by omega)
  have aT := aT.fr f8 (by omega)
  have aC := aC.fr f8 (by omega)
  have aB := aB.fr f8 (by omega)
  have F := F.trans (f8.mono fun x e => by omega)
  refine ax_ireturn f193_18 rfl rfl ?_
  exact ⟨rI_of rfl, ⟨⟨_, _, _, _, _, o⟩, a1, ⟨_, a2, e2⟩, ⟨_, a3, e3⟩, a4, ⟨_, a5⟩, hW, aT, ⟨_, aC⟩, ⟨_, aB⟩⟩, F⟩
theorem m_193 {h : am_H} {R : Int → Int} {S : Int → Int → Int} {c : Int} {G : Nat → Int → Int} {b : Int → Int} {T : Int → Int} {L th : Int} (a : Mdl h (R, S, c, G, b, T, L) th) (k : okS (R, S, c, G, b, T, L)) (h0 : errP T L = -1) : am_X 10 193 0 (am_ent 193 [.ref 120]) [] h (Mot h ((ldr T L 120 1 0 beg).1) 0 ((ldr T L 120 1 0 beg).2, S, 0, G, fun _ => 0, T, L)) := by
  show am_X 10 193 0 [.ref 120, am_u, am_u, am_u] [] h _
  obtain ⟨⟨lk, pa, sp, fi, se, o⟩, a1, ⟨g2, a2, e2⟩, ⟨g3, a3, e3⟩, a4, ⟨g5, a5⟩, hW, aT, ⟨gC, aC⟩, gB, aB⟩ := a
  have o : Mo h c th lk pa L sp fi se := o
  have a1 : oI h 121 270 R := a1
  have e2 : ∀ k j, 0 ≤ k → k < c → 0 ≤ j → j < 270 → g2 (270 * k + j) = S k j := e2
  have e3 : ∀ (q : Nat) j, q < 2 → b q = 1 → 0 ≤ j → j < 270 → g3 (270 * q + j) = G q j := e3
  have a4 : oA 2 h 124 2 b := a4
  have aT : oI h 130 120 T := aT
  have i : inv R := k.1
  have iS : ∀ k, 0 ≤ k → k < c → inv (S k) := k.2.1
  have hc : 0 ≤ c ∧ c ≤ 14 := k.2.2.1
  have iG : ∀ q : Nat, q < 2 → b q = 1 → inv (G q) := k.2.2.2.1
  have hb : ∀ j, 0 ≤ j → j < 2 → b j = 0 ∨ b j = 1 := k.2.2.2.2.1
  have hL : 0 ≤ L ∧ L ≤ 120 := k.2.2.2.2.2.1
  have hT : ∀ j, 0 ≤ j → j < L → 0 ≤ T j ∧ T j ≤ 255 := k.2.2.2.2.2.2
  clear k
  have F : fr (fun x => 120 ≤ x ∧ x ≤ 132) h h := fr_rf
  have hE := epl_in (T := T) (L := L) hL.2 120 1 (by omega)
  have hE : -1 ≤ errP T L ∧ errP T L ≤ 130 := by unfold errP; split <;> omega
  refine ax_aload_n f193_0 rfl ?_
  refine ax_iconst f193_1 ?_
  refine ax_putfO f193_2 o rfl rfl rfl rfl (fun hp1 o1 r1 => ?_)
  have o : Mo hp1 _ _ _ _ _ _ _ _ := o1
  have a1 := a1.fr r1 (by omega)
  have a2 := a2.fr r1 (by omega)
  have a3 := a3.fr r1 (by omega)
  have a4 := a4.fr r1 (by omega)
  have a5 := a5.fr r1 (by omega)
  have hW := hW.mv r1 (by omega) (by omega) (by omega) (by omega)
  have aT := aT.fr r1 (by omega)
  have aC := aC.fr r1 (by omega)
  have aB := aB.fr r1 (by omega)
  have F := F.trans (r1.mono fun x e => by omega)
  refine ax_aload_n f193_5 rfl ?_
  refine ax_cvI (rest := []) f193_6 o rfl rfl rfl rfl rfl rfl rfl rfl (c_190 o aT hL hT) ?_
  rintro h8 ⟨⟨sp8, fi8, se8, o8⟩, f8⟩
  have o : Mo h8 _ _ _ _ _ _ _ _ := o8
  have a1 := a1.fr f8 (by omega)
  have a2 := a2.fr f8 (by omega)
  have a3 := a3.fr f8 (by omega)
  have a4 := a4.fr f8 (by omega)
  have a5 := a5.fr f8 (by omega)
  have hW := hW.mv f8 (by omega) (by omega) (by omega) (by omega)
  have aT := aT.fr f8 (by omega)
  have aC := aC.fr f8 (by omega)
  have aB := aB.fr f8 (by omega)
  have F := F.trans (f8.mono fun x e => by omega)
  refine ax_iconst f193_9 ?_
  refine ax_icmp_eq f193_10 rfl ⟨by omega, by omega⟩ ⟨by omega, by omega⟩ (fun q10 => ?_) (fun q10 => absurd q10 (by omega))
  refine ax_aload_n f193_19 rfl ?_
  refine ax_cvV (rest := []) f193_20 o rfl rfl rfl rfl rfl rfl rfl rfl (c_146 o a1) ?_
  rintro h7 ⟨a17, f7⟩
  have o : Mo h7 _ _ _ _ _ _ _ _ := f7.at (q := 120) (by omega) o
  have a1 := a17
  have a2 := a2.fr f7 (by omega)
  have a3 := a3.fr f7 (by omega)
  have a4 := a4.fr f7 (by omega)
  have a5 := a5.fr f7 (by omega)
  have hW := hW.mv f7 (by omega) (by omega) (by omega) (by omega)
  have aT := aT.fr f7 (by omega)
  have aC := aC.fr f7 (by omega)
  have aB := aB.fr f7 (by omega)
  have F := F.trans (f7.mono fun x e => by omega)
  refine ax_aload_n f193_23 rfl ?_
  refine ax_iconst f193_24 ?_
  refine ax_putfO f193_25 o rfl rfl rfl rfl (fun hp4 o4 r4 => ?_)
  have o : Mo hp4 _ _ _ _ _ _ _ _ := o4
  have a1 := a1.fr r4 (by omega)
  have a2 := a2.fr r4 (by omega)
  have a3 := a3.fr r4 (by omega)
  have a4 := a4.fr r4 (by omega)
  have a5 := a5.fr r4 (by omega)
  have hW := hW.mv r4 (by omega) (by omega) (by omega) (by omega)
  have aT := aT.fr r4 (by omega)
  have aC := aC.fr r4 (by omega)
  have aB := aB.fr r4 (by omega)
  have F := F.trans (r4.mono fun x e => by omega)
  refine ax_aload_n f193_28 rfl ?_
  refine ax_getf f193_29 o rfl ?_
  refine ax_iconst f193_32 ?_
  refine ax_iconst f193_33 ?_
  refine ax_bastO f193_34 a4 (by omega) (by omega) rfl (by omega) (fun hp5 o5 r5 => ?_)
  have o : Mo hp5 _ _ _ _ _ _ _ _ := r5.at (q := 120) (by omega) o
  have a1 := a1.fr r5 (by omega)
  have a2 := a2.fr r5 (by omega)
  have a3 := a3.fr r5 (by omega)
  have a4 := o5
  have a5 := a5.fr r5 (by omega)
  have hW := hW.mv r5 (by omega) (by omega) (by omega) (by omega)
  have aT := aT.fr r5 (by omega)
  have aC := aC.fr r5 (by omega)
  have aB := aB.fr r5 (by omega)
  have F := F.trans (r5.mono fun x e => by omega)
  refine ax_aload_n f193_35 rfl ?_
  refine ax_getf f193_36 o rfl ?_
  refine ax_iconst f193_39 ?_
  refine ax_iconst f193_40 ?_
  refine ax_bastO f193_41 a4 (by omega) (by omega) rfl (by omega) (fun hp6 o6 r6 => ?_)
  have o : Mo hp6 _ _ _ _ _ _ _ _ := r6.at (q := 120) (by omega) o
  have a1 := a1.fr r6 (by omega)
  have a2 := a2.fr r6 (by omega)
  have a3 := a3.fr r6 (by omega)
  have a4 := o6
  have a5 := a5.fr r6 (by omega)
  have hW := hW.mv r6 (by omega) (by omega) (by omega) (by omega)
  have aT := aT.fr r6 (by omega)
  have aC := aC.fr r6 (by omega)
  have aB := aB.fr r6 (by omega)
  have F := F.trans (r6.mono fun x e => by omega)
  refine ax_iconst f193_42 ?_
  refine ax_istore_n (ls' := [_, _, _, _]) f193_43 (Nat.le_of_ble_eq_true rfl) rfl ?_
  refine ax_aload_n f193_44 rfl ?_
  refine ax_iconst f193_45 ?_
  refine ax_putfO f193_46 o rfl rfl rfl rfl (fun hp7 o7 r7 => ?_)
  have o : Mo hp7 _ _ _ _ _ _ _ _ := o7
  have a1 := a1.fr r7 (by omega)
  have a2 := a2.fr r7 (by omega)
  have a3 := a3.fr r7 (by omega)
  have a4 := a4.fr r7 (by omega)
  have a5 := a5.fr r7 (by omega)
  have hW := hW.mv r7 (by omega) (by omega) (by omega) (by omega)
  have aT := aT.fr r7 (by omega)
  have aC := aC.fr r7 (by omega)
  have aB := aB.fr r7 (by omega)
  have F := F.trans (r7.mono fun x e => by omega)
  have hE2 : epl T L 120 1 = -1 := by
    unfold errP at h0
    split at h0
    · exact h0
    · omega
  refine am_X_mono (lp_193 (d := 0) hL hT 120 (lo := 0) (x2 := am_u) (x3 := am_u) o a1 aT hW inv_beg hE2 (by omega) ⟨by omega, by omega⟩) (Nat.le_refl _) ?_
  rintro r h' ⟨k1, ⟨lk6, pa6, sp6, fi6, se6, o6⟩, a16, hW6, f6⟩
  have o : Mo h' _ _ _ _ _ _ _ _ := o6
  have a1 := a16
  have a2 := a2.fr f6 (by omega)
  have a3 := a3.fr f6 (by omega)
  have a4 := a4.fr f6 (by omega)
  have a5 := a5.fr f6 (by omega)
  have aT := aT.fr f6 (by omega)
  have aC := aC.fr f6 (by omega)
  have aB := aB.fr f6 (by omega)
  have F := F.trans (f6.mono fun x e => by omega)
  have a4 := a4.eq (g' := fun _ => 0) fun j j1 j2 => by
    unfold uZ
    split
    · rfl
    · split <;> first | rfl | omega
  have e2 : ∀ k j, (0 : Int) ≤ k → k < 0 → 0 ≤ j → j < 270 → g2 (270 * k + j) = S k j := fun k j k1 k2 => by omega
  have e3 : ∀ (q : Nat) j, q < 2 → (0 : Int) = 1 → 0 ≤ j → j < 270 → g3 (270 * q + j) = G q j := fun q j q1 q2 => absurd q2 (by decide)
  have hW := hW6
  exact ⟨k1, ⟨⟨_, _, _, _, _, o⟩, a1, ⟨_, a2, e2⟩, ⟨_, a3, e3⟩, a4, ⟨_, a5⟩, hW, aT, ⟨_, aC⟩, ⟨_, aB⟩⟩, F⟩
theorem m_195_1 {h : am_H} {R : Int → Int} {S : Int → Int → Int} {c : Int} {G : Nat → Int → Int} {b : Int → Int} {T : Int → Int} {L th : Int} (a : Mdl h (R, S, c, G, b, T, L) th) (k : okS (R, S, c, G, b, T, L)) {z : Int} (hz : inI z) (h0 : ¬ (0 ≤ z ∧ z ≤ 10)) : am_X 3 195 0 (am_ent 195 [.ref 120, .int (iI z)]) [] h (Mot h (0) 1 (R, S, c, G, b, T, L)) := by
  show am_X 3 195 0 [.ref 120, .int (iI z)] [] h _
  obtain ⟨⟨lk, pa, sp, fi, se, o⟩, a1, ⟨g2, a2, e2⟩, ⟨g3, a3, e3⟩, a4, ⟨g5, a5⟩, hW, aT, ⟨gC, aC⟩, gB, aB⟩ := a
  have o : Mo h c th lk pa L sp fi se := o
  have a1 : oI h 121 270 R := a1
  have e2 : ∀ k j, 0 ≤ k → k < c → 0 ≤ j → j < 270 → g2 (270 * k + j) = S k j := e2
  have e3 : ∀ (q : Nat) j, q < 2 → b q = 1 → 0 ≤ j → j < 270 → g3 (270 * q + j) = G q j := e3
  have a4 : oA 2 h 124 2 b := a4
  have aT : oI h 130 120 T := aT
  have i : inv R := k.1
  have iS : ∀ k, 0 ≤ k → k < c → inv (S k) := k.2.1
  have hc : 0 ≤ c ∧ c ≤ 14 := k.2.2.1
  have iG : ∀ q : Nat, q < 2 → b q = 1 → inv (G q) := k.2.2.2.1
  have hb : ∀ j, 0 ≤ j → j < 2 → b j = 0 ∨ b j = 1 := k.2.2.2.2.1
  have hL : 0 ≤ L ∧ L ≤ 120 := k.2.2.2.2.2.1
  have hT : ∀ j, 0 ≤ j → j < L → 0 ≤ T j ∧ T j ≤ 255 := k.2.2.2.2.2.2
  clear k
  have F : fr (fun x => 120 ≤ x ∧ x ≤ 132) h h := fr_rf
  refine ax_aload_n f195_0 rfl ?_
  refine ax_iconst f195_1 ?_
  refine ax_putfO f195_2 o rfl rfl rfl rfl (fun hp1 o1 r1 => ?_)
  have o : Mo hp1 _ _ _ _ _ _ _ _ := o1
  have a1 := a1.fr r1 (by omega)
  have a2 := a2.fr r1 (by omega)
  have a3 := a3.fr r1 (by omega)
  have a4 := a4.fr r1 (by omega)
  have a5 := a5.fr r1 (by omega)
  have hW := hW.mv r1 (by omega) (by omega) (by omega) (by omega)
  have aT := aT.fr r1 (by omega)
  have aC := aC.fr r1 (by omega)
  have aB := aB.fr r1 (by omega)
  have F := F.trans (r1.mono fun x e => by omega)
  refine ax_iload_n f195_5 rfl ?_
  refine ax_iconst f195_6 ?_
  refine ax_bipush f195_7 ?_
  refine ax_csI (rest := []) f195_9 (Or.inl rfl) rfl rfl rfl rfl rfl rfl (c_145 hz ⟨by decide, by decide⟩ ⟨by decide, by decide⟩) ?_
  intro _ e_
  obtain rfl := e_.symm
  clear e_
  refine ax_nmI (b2i_f h0) ?_
  refine ax_if_eq f195_12 rfl ⟨by omega, by omega⟩ (fun q12 => ?_) (fun q12 => absurd q12 (by omega))
  refine ax_aload_n f195_23 rfl ?_
  refine ax_iconst f195_24 ?_
  refine ax_cvI (rest := []) f195_25 o rfl rfl rfl rfl rfl rfl rfl rfl (c_144 o) ?_
  rintro h8 ⟨o8, f8⟩
  have o : Mo h8 _ _ _ _ _ _ _ _ := o8
  have a1 := a1.fr f8 (by omega)
  have a2 := a2.fr f8 (by omega)
  have a3 := a3.fr f8 (by omega)
  have a4 := a4.fr f8 (by omega)
  have a5 := a5.fr f8 (by omega)
  have hW := hW.mv f8 (by omega) (by omega) (by omega) (by omega)
  have aT := aT.fr f8 (by omega)
  have aC := aC.fr f8 (by omega)
  have aB := aB.fr f8 (by omega)
  have F := F.trans (f8.mono fun x e => by omega)
  refine ax_ireturn f195_28 rfl rfl ?_
  exact ⟨rI_of rfl, ⟨⟨_, _, _, _, _, o⟩, a1, ⟨_, a2, e2⟩, ⟨_, a3, e3⟩, a4, ⟨_, a5⟩, hW, aT, ⟨_, aC⟩, ⟨_, aB⟩⟩, F⟩
theorem m_195 {h : am_H} {R : Int → Int} {S : Int → Int → Int} {c : Int} {G : Nat → Int → Int} {b : Int → Int} {T : Int → Int} {L th : Int} (a : Mdl h (R, S, c, G, b, T, L) th) (k : okS (R, S, c, G, b, T, L)) {z : Int} (h0 : 0 ≤ z ∧ z ≤ 10) : am_X 3 195 0 (am_ent 195 [.ref 120, .int (iI z)]) [] h (Mot h (abt R z) 0 (R, S, c, G, b, T, L)) := by
  show am_X 3 195 0 [.ref 120, .int (iI z)] [] h _
  obtain ⟨⟨lk, pa, sp, fi, se, o⟩, a1, ⟨g2, a2, e2⟩, ⟨g3, a3, e3⟩, a4, ⟨g5, a5⟩, hW, aT, ⟨gC, aC⟩, gB, aB⟩ := a
  have o : Mo h c th lk pa L sp fi se := o
  have a1 : oI h 121 270 R := a1
  have e2 : ∀ k j, 0 ≤ k → k < c → 0 ≤ j → j < 270 → g2 (270 * k + j) = S k j := e2
  have e3 : ∀ (q : Nat) j, q < 2 → b q = 1 → 0 ≤ j → j < 270 → g3 (270 * q + j) = G q j := e3
  have a4 : oA 2 h 124 2 b := a4
  have aT : oI h 130 120 T := aT
  have i : inv R := k.1
  have iS : ∀ k, 0 ≤ k → k < c → inv (S k) := k.2.1
  have hc : 0 ≤ c ∧ c ≤ 14 := k.2.2.1
  have iG : ∀ q : Nat, q < 2 → b q = 1 → inv (G q) := k.2.2.2.1
  have hb : ∀ j, 0 ≤ j → j < 2 → b j = 0 ∨ b j = 1 := k.2.2.2.2.1
  have hL : 0 ≤ L ∧ L ≤ 120 := k.2.2.2.2.2.1
  have hT : ∀ j, 0 ≤ j → j < L → 0 ≤ T j ∧ T j ≤ 255 := k.2.2.2.2.2.2
  clear k
  have F : fr (fun x => 120 ≤ x ∧ x ≤ 132) h h := fr_rf
  have hz : inI z := ⟨by omega, by omega⟩
  refine ax_aload_n f195_0 rfl ?_
  refine ax_iconst f195_1 ?_
  refine ax_putfO f195_2 o rfl rfl rfl rfl (fun hp1 o1 r1 => ?_)
  have o : Mo hp1 _ _ _ _ _ _ _ _ := o1
  have a1 := a1.fr r1 (by omega)
  have a2 := a2.fr r1 (by omega)
  have a3 := a3.fr r1 (by omega)
  have a4 := a4.fr r1 (by omega)
  have a5 := a5.fr r1 (by omega)
  have hW := hW.mv r1 (by omega) (by omega) (by omega) (by omega)
  have aT := aT.fr r1 (by omega)
  have aC := aC.fr r1 (by omega)
  have aB := aB.fr r1 (by omega)
  have F := F.trans (r1.mono fun x e => by omega)
  refine ax_iload_n f195_5 rfl ?_
  refine ax_iconst f195_6 ?_
  refine ax_bipush f195_7 ?_
  refine ax_csI (rest := []) f195_9 (Or.inl rfl) rfl rfl rfl rfl rfl rfl (c_145 hz ⟨by decide, by decide⟩ ⟨by decide, by decide⟩) ?_
  intro _ e_
  obtain rfl := e_.symm
  clear e_
  refine ax_nmI (b2i_t h0) ?_
  refine ax_if_eq f195_12 rfl ⟨by omega, by omega⟩ (fun q12 => absurd q12 (by omega)) (fun q12 => ?_)
  refine ax_aload_n f195_15 rfl ?_
  refine ax_iload_n f195_16 rfl ?_
  refine ax_cvI (rest := []) f195_17 o rfl rfl rfl rfl rfl rfl rfl rfl (c_194 o a1 i h0) ?_
  intro _ e_
  obtain rfl := e_.symm
  clear e_
  refine ax_goto f195_20 rfl ?_
  refine ax_ireturn f195_28 rfl rfl ?_
  exact ⟨rI_of rfl, ⟨⟨_, _, _, _, _, o⟩, a1, ⟨_, a2, e2⟩, ⟨_, a3, e3⟩, a4, ⟨_, a5⟩, hW, aT, ⟨_, aC⟩, ⟨_, aB⟩⟩, F⟩
theorem m_197_1 {h : am_H} {R : Int → Int} {S : Int → Int → Int} {c : Int} {G : Nat → Int → Int} {b : Int → Int} {T : Int → Int} {L th : Int} (a : Mdl h (R, S, c, G, b, T, L) th) (k : okS (R, S, c, G, b, T, L)) {r0 z : Int} (hr : inI r0) (h0 : ¬ (0 ≤ r0 ∧ r0 < 48)) : am_X 2 197 0 (am_ent 197 [.ref 120, .int (iI r0), .int (iI z)]) [] h (Mot h (0) 1 (R, S, c, G, b, T, L)) := by
  show am_X 2 197 0 [.ref 120, .int (iI r0), .int (iI z)] [] h _
  obtain ⟨⟨lk, pa, sp, fi, se, o⟩, a1, ⟨g2, a2, e2⟩, ⟨g3, a3, e3⟩, a4, ⟨g5, a5⟩, hW, aT, ⟨gC, aC⟩, gB, aB⟩ := a
  have o : Mo h c th lk pa L sp fi se := o
  have a1 : oI h 121 270 R := a1
  have e2 : ∀ k j, 0 ≤ k → k < c → 0 ≤ j → j < 270 → g2 (270 * k + j) = S k j := e2
  have e3 : ∀ (q : Nat) j, q < 2 → b q = 1 → 0 ≤ j → j < 270 → g3 (270 * q + j) = G q j := e3
  have a4 : oA 2 h 124 2 b := a4
  have aT : oI h 130 120 T := aT
  have i : inv R := k.1
  have iS : ∀ k, 0 ≤ k → k < c → inv (S k) := k.2.1
  have hc : 0 ≤ c ∧ c ≤ 14 := k.2.2.1
  have iG : ∀ q : Nat, q < 2 → b q = 1 → inv (G q) := k.2.2.2.1
  have hb : ∀ j, 0 ≤ j → j < 2 → b j = 0 ∨ b j = 1 := k.2.2.2.2.1
  have hL : 0 ≤ L ∧ L ≤ 120 := k.2.2.2.2.2.1
  have hT : ∀ j, 0 ≤ j → j < L → 0 ≤ T j ∧ T j ≤ 255 := k.2.2.2.2.2.2
  clear k
  have F : fr (fun x => 120 ≤ x ∧ x ≤ 132) h h := fr_rf
  refine ax_aload_n f197_0 rfl ?_
  refine ax_iconst f197_1 ?_
  refine ax_putfO f197_2 o rfl rfl rfl rfl (fun hp1 o1 r1 => ?_)
  have o : Mo hp1 _ _ _ _ _ _ _ _ := o1
  have a1 := a1.fr r1 (by omega)
  have a2 := a2.fr r1 (by omega)
  have a3 := a3.fr r1 (by omega)
  have a4 := a4.fr r1 (by omega)
  have a5 := a5.fr r1 (by omega)
  have hW := hW.mv r1 (by omega) (by omega) (by omega) (by omega)
  have aT := aT.fr r1 (by omega)
  have aC := aC.fr r1 (by omega)
  have aB := aB.fr r1 (by omega)
  have F := F.trans (r1.mono fun x e => by omega)
  refine ax_iload_n f197_5 rfl ?_
  refine ax_csI (rest := []) f197_6 (Or.inl rfl) rfl rfl rfl rfl rfl rfl (c_147 hr) ?_
  intro _ e_
  obtain rfl := e_.symm
  clear e_
  refine ax_nmI (b2i_f (show ¬ (0 ≤ r0 ∧ r0 ≤ 47) by omega)) ?_
  refine ax_if_ne f197_9 rfl ⟨by omega, by omega⟩ (fun q9 => absurd q9 (by omega)) (fun q9 => ?_)
  refine ax_aload_n f197_12 rfl ?_
  refine ax_iconst f197_13 ?_
  refine ax_cvI (rest := []) f197_14 o rfl rfl rfl rfl rfl rfl rfl rfl (c_144 o) ?_
  rintro h8 ⟨o8, f8⟩
  have o : Mo h8 _ _ _ _ _ _ _ _ := o8
  have a1 := a1.fr f8 (by omega)
  have a2 := a2.fr f8 (by omega)
  have a3 := a3.fr f8 (by omega)
  have a4 := a4.fr f8 (by omega)
  have a5 := a5.fr f8 (by omega)
  have hW := hW.mv f8 (by omega) (by omega) (by omega) (by omega)
  have aT := aT.fr f8 (by omega)
  have aC := aC.fr f8 (by omega)
  have aB := aB.fr f8 (by omega)
  have F := F.trans (f8.mono fun x e => by omega)
  refine ax_ireturn f197_17 rfl rfl ?_
  exact ⟨rI_of rfl, ⟨⟨_, _, _, _, _, o⟩, a1, ⟨_, a2, e2⟩, ⟨_, a3, e3⟩, a4, ⟨_, a5⟩, hW, aT, ⟨_, aC⟩, ⟨_, aB⟩⟩, F⟩
theorem m_197_2 {h : am_H} {R : Int → Int} {S : Int → Int → Int} {c : Int} {G : Nat → Int → Int} {b : Int → Int} {T : Int → Int} {L th : Int} (a : Mdl h (R, S, c, G, b, T, L) th) (k : okS (R, S, c, G, b, T, L)) {r0 z : Int} (h0 : 0 ≤ r0 ∧ r0 < 48) (hz : inI z) (h1 : ¬ (0 ≤ z ∧ z ≤ 4)) : am_X 2 197 0 (am_ent 197 [.ref 120, .int (iI r0), .int (iI z)]) [] h (Mot h (0) 2 (R, S, c, G, b, T, L)) := by
  show am_X 2 197 0 [.ref 120, .int (iI r0), .int (iI z)] [] h _
  obtain ⟨⟨lk, pa, sp, fi, se, o⟩, a1, ⟨g2, a2, e2⟩, ⟨g3, a3, e3⟩, a4, ⟨g5, a5⟩, hW, aT, ⟨gC, aC⟩, gB, aB⟩ := a
  have o : Mo h c th lk pa L sp fi se := o
  have a1 : oI h 121 270 R := a1
  have e2 : ∀ k j, 0 ≤ k → k < c → 0 ≤ j → j < 270 → g2 (270 * k + j) = S k j := e2
  have e3 : ∀ (q : Nat) j, q < 2 → b q = 1 → 0 ≤ j → j < 270 → g3 (270 * q + j) = G q j := e3
  have a4 : oA 2 h 124 2 b := a4
  have aT : oI h 130 120 T := aT
  have i : inv R := k.1
  have iS : ∀ k, 0 ≤ k → k < c → inv (S k) := k.2.1
  have hc : 0 ≤ c ∧ c ≤ 14 := k.2.2.1
  have iG : ∀ q : Nat, q < 2 → b q = 1 → inv (G q) := k.2.2.2.1
  have hb : ∀ j, 0 ≤ j → j < 2 → b j = 0 ∨ b j = 1 := k.2.2.2.2.1
  have hL : 0 ≤ L ∧ L ≤ 120 := k.2.2.2.2.2.1
  have hT : ∀ j, 0 ≤ j → j < L → 0 ≤ T j ∧ T j ≤ 255 := k.2.2.2.2.2.2
  clear k
  have F : fr (fun x => 120 ≤ x ∧ x ≤ 132) h h := fr_rf
  have hr : inI r0 := ⟨by omega, by omega⟩
  refine ax_aload_n f197_0 rfl ?_
  refine ax_iconst f197_1 ?_
  refine ax_putfO f197_2 o rfl rfl rfl rfl (fun hp1 o1 r1 => ?_)
  have o : Mo hp1 _ _ _ _ _ _ _ _ := o1
  have a1 := a1.fr r1 (by omega)
  have a2 := a2.fr r1 (by omega)
  have a3 := a3.fr r1 (by omega)
  have a4 := a4.fr r1 (by omega)
  have a5 := a5.fr r1 (by omega)
  have hW := hW.mv r1 (by omega) (by omega) (by omega) (by omega)
  have aT := aT.fr r1 (by omega)
  have aC := aC.fr r1 (by omega)
  have aB := aB.fr r1 (by omega)
  have F := F.trans (r1.mono fun x e => by omega)
  refine ax_iload_n f197_5 rfl ?_
  refine ax_csI (rest := []) f197_6 (Or.inl rfl) rfl rfl rfl rfl rfl rfl (c_147 hr) ?_
  intro _ e_
  obtain rfl := e_.symm
  clear e_
  refine ax_nmI (b2i_t (show 0 ≤ r0 ∧ r0 ≤ 47 by omega)) ?_
  refine ax_if_ne f197_9 rfl ⟨by omega, by omega⟩ (fun q9 => ?_) (fun q9 => absurd q9 (by omega))
  refine ax_iload_n f197_18 rfl ?_
  refine ax_iconst f197_19 ?_
  refine ax_iconst f197_20 ?_
  refine ax_csI (rest := []) f197_21 (Or.inl rfl) rfl rfl rfl rfl rfl rfl (c_145 hz ⟨by decide, by decide⟩ ⟨by decide, by decide⟩) ?_
  intro _ e_
  obtain rfl := e_.symm
  clear e_
  refine ax_nmI (b2i_f h1) ?_
  refine ax_if_eq f197_24 rfl ⟨by omega, by omega⟩ (fun q24 => ?_) (fun q24 => absurd q24 (by omega))
  refine ax_aload_n f197_36 rfl ?_
  refine ax_iconst f197_37 ?_
  refine ax_cvI (rest := []) f197_38 o rfl rfl rfl rfl rfl rfl rfl rfl (c_144 o) ?_
  rintro h8 ⟨o8, f8⟩
  have o : Mo h8 _ _ _ _ _ _ _ _ := o8
  have a1 := a1.fr f8 (by omega)
  have a2 := a2.fr f8 (by omega)
  have a3 := a3.fr f8 (by omega)
  have a4 := a4.fr f8 (by omega)
  have a5 := a5.fr f8 (by omega)
  have hW := hW.mv f8 (by omega) (by omega) (by omega) (by omega)
  have aT := aT.fr f8 (by omega)
  have aC := aC.fr f8 (by omega)
  have aB := aB.fr f8 (by omega)
  have F := F.trans (f8.mono fun x e => by omega)
  refine ax_ireturn f197_41 rfl rfl ?_
  exact ⟨rI_of rfl, ⟨⟨_, _, _, _, _, o⟩, a1, ⟨_, a2, e2⟩, ⟨_, a3, e3⟩, a4, ⟨_, a5⟩, hW, aT, ⟨_, aC⟩, ⟨_, aB⟩⟩, F⟩
theorem m_197 {h : am_H} {R : Int → Int} {S : Int → Int → Int} {c : Int} {G : Nat → Int → Int} {b : Int → Int} {T : Int → Int} {L th : Int} (a : Mdl h (R, S, c, G, b, T, L) th) (k : okS (R, S, c, G, b, T, L)) {r0 z : Int} (h0 : 0 ≤ r0 ∧ r0 < 48) (h1 : 0 ≤ z ∧ z ≤ 4) : am_X 2 197 0 (am_ent 197 [.ref 120, .int (iI r0), .int (iI z)]) [] h (Mot h (rof R r0 z) 0 (R, S, c, G, b, T, L)) := by
  show am_X 2 197 0 [.ref 120, .int (iI r0), .int (iI z)] [] h _
  obtain ⟨⟨lk, pa, sp, fi, se, o⟩, a1, ⟨g2, a2, e2⟩, ⟨g3, a3, e3⟩, a4, ⟨g5, a5⟩, hW, aT, ⟨gC, aC⟩, gB, aB⟩ := a
  have o : Mo h c th lk pa L sp fi se := o
  have a1 : oI h 121 270 R := a1
  have e2 : ∀ k j, 0 ≤ k → k < c → 0 ≤ j → j < 270 → g2 (270 * k + j) = S k j := e2
  have e3 : ∀ (q : Nat) j, q < 2 → b q = 1 → 0 ≤ j → j < 270 → g3 (270 * q + j) = G q j := e3
  have a4 : oA 2 h 124 2 b := a4
  have aT : oI h 130 120 T := aT
  have i : inv R := k.1
  have iS : ∀ k, 0 ≤ k → k < c → inv (S k) := k.2.1
  have hc : 0 ≤ c ∧ c ≤ 14 := k.2.2.1
  have iG : ∀ q : Nat, q < 2 → b q = 1 → inv (G q) := k.2.2.2.1
  have hb : ∀ j, 0 ≤ j → j < 2 → b j = 0 ∨ b j = 1 := k.2.2.2.2.1
  have hL : 0 ≤ L ∧ L ≤ 120 := k.2.2.2.2.2.1
  have hT : ∀ j, 0 ≤ j → j < L → 0 ≤ T j ∧ T j ≤ 255 := k.2.2.2.2.2.2
  clear k
  have F : fr (fun x => 120 ≤ x ∧ x ≤ 132) h h := fr_rf
  have hr : inI r0 := ⟨by omega, by omega⟩
  have hz : inI z := ⟨by omega, by omega⟩
  refine ax_aload_n f197_0 rfl ?_
  refine ax_iconst f197_1 ?_
  refine ax_putfO f197_2 o rfl rfl rfl rfl (fun hp1 o1 r1 => ?_)
  have o : Mo hp1 _ _ _ _ _ _ _ _ := o1
  have a1 := a1.fr r1 (by omega)
  have a2 := a2.fr r1 (by omega)
  have a3 := a3.fr r1 (by omega)
  have a4 := a4.fr r1 (by omega)
  have a5 := a5.fr r1 (by omega)
  have hW := hW.mv r1 (by omega) (by omega) (by omega) (by omega)
  have aT := aT.fr r1 (by omega)
  have aC := aC.fr r1 (by omega)
  have aB := aB.fr r1 (by omega)
  have F := F.trans (r1.mono fun x e => by omega)
  refine ax_iload_n f197_5 rfl ?_
  refine ax_csI (rest := []) f197_6 (Or.inl rfl) rfl rfl rfl rfl rfl rfl (c_147 hr) ?_
  intro _ e_
  obtain rfl := e_.symm
  clear e_
  refine ax_nmI (b2i_t (show 0 ≤ r0 ∧ r0 ≤ 47 by omega)) ?_
  refine ax_if_ne f197_9 rfl ⟨by omega, by omega⟩ (fun q9 => ?_) (fun q9 => absurd q9 (by omega))
  refine ax_iload_n f197_18 rfl ?_
  refine ax_iconst f197_19 ?_
  refine ax_iconst f197_20 ?_
  refine ax_csI (rest := []) f197_21 (Or.inl rfl) rfl rfl rfl rfl rfl rfl (c_145 hz ⟨by decide, by decide⟩ ⟨by decide, by decide⟩) ?_
  intro _ e_
  obtain rfl := e_.symm
  clear e_
  refine ax_nmI (b2i_t h1) ?_
  refine ax_if_eq f197_24 rfl ⟨by omega, by omega⟩ (fun q24 => absurd q24 (by omega)) (fun q24 => ?_)
  refine ax_aload_n f197_27 rfl ?_
  refine ax_iload_n f197_28 rfl ?_
  refine ax_iload_n f197_29 rfl ?_
  refine ax_cvI (rest := []) f197_30 o rfl rfl rfl rfl rfl rfl rfl rfl (c_196 o a1 h0 h1) ?_
  intro _ e_
  obtain rfl := e_.symm
  clear e_
  refine ax_goto f197_33 rfl ?_
  refine ax_ireturn f197_41 rfl rfl ?_
  exact ⟨rI_of rfl, ⟨⟨_, _, _, _, _, o⟩, a1, ⟨_, a2, e2⟩, ⟨_, a3, e3⟩, a4, ⟨_, a5⟩, hW, aT, ⟨_, aC⟩, ⟨_, aB⟩⟩, F⟩
theorem m_199_1 {h : am_H} {R : Int → Int} {S : Int → Int → Int} {c : Int} {G : Nat → Int → Int} {b : Int → Int} {T : Int → Int} {L th : Int} (a : Mdl h (R, S, c, G, b, T, L) th) (k : okS (R, S, c, G, b, T, L)) {n z : Int} (hn : inI n) (h0 : ¬ (0 ≤ n ∧ n < blk R)) : am_X 3 199 0 (am_ent 199 [.ref 120, .int (iI n), .int (iI z)]) [] h (Mot h (0) 1 (R, S, c, G, b, T, L)) := by
  show am_X 3 199 0 [.ref 120, .int (iI n), .int (iI z)] [] h _
  obtain ⟨⟨lk, pa, sp, fi, se, o⟩, a1, ⟨g2, a2, e2⟩, ⟨g3, a3, e3⟩, a4, ⟨g5, a5⟩, hW, aT, ⟨gC, aC⟩, gB, aB⟩ := a
  have o : Mo h c th lk pa L sp fi se := o
  have a1 : oI h 121 270 R := a1
  have e2 : ∀ k j, 0 ≤ k → k < c → 0 ≤ j → j < 270 → g2 (270 * k + j) = S k j := e2
  have e3 : ∀ (q : Nat) j, q < 2 → b q = 1 → 0 ≤ j → j < 270 → g3 (270 * q + j) = G q j := e3
  have a4 : oA 2 h 124 2 b := a4
  have aT : oI h 130 120 T := aT
  have i : inv R := k.1
  have iS : ∀ k, 0 ≤ k → k < c → inv (S k) := k.2.1
  have hc : 0 ≤ c ∧ c ≤ 14 := k.2.2.1
  have iG : ∀ q : Nat, q < 2 → b q = 1 → inv (G q) := k.2.2.2.1
  have hb : ∀ j, 0 ≤ j → j < 2 → b j = 0 ∨ b j = 1 := k.2.2.2.2.1
  have hL : 0 ≤ L ∧ L ≤ 120 := k.2.2.2.2.2.1
  have hT : ∀ j, 0 ≤ j → j < L → 0 ≤ T j ∧ T j ≤ 255 := k.2.2.2.2.2.2
  clear k
  have F : fr (fun x => 120 ≤ x ∧ x ≤ 132) h h := fr_rf
  refine ax_aload_n f199_0 rfl ?_
  refine ax_iconst f199_1 ?_
  refine ax_putfO f199_2 o rfl rfl rfl rfl (fun hp1 o1 r1 => ?_)
  have o : Mo hp1 _ _ _ _ _ _ _ _ := o1
  have a1 := a1.fr r1 (by omega)
  have a2 := a2.fr r1 (by omega)
  have a3 := a3.fr r1 (by omega)
  have a4 := a4.fr r1 (by omega)
  have a5 := a5.fr r1 (by omega)
  have hW := hW.mv r1 (by omega) (by omega) (by omega) (by omega)
  have aT := aT.fr r1 (by omega)
  have aC := aC.fr r1 (by omega)
  have aB := aB.fr r1 (by omega)
  have F := F.trans (r1.mono fun x e => by omega)
  refine ax_aload_n f199_5 rfl ?_
  refine ax_iload_n f199_6 rfl ?_
  refine ax_cvI (rest := []) f199_7 o rfl rfl rfl rfl rfl rfl rfl rfl (c_152 o a1 i.ff i.b12 hn) ?_
  intro _ e_
  obtain rfl := e_.symm
  clear e_
  refine ax_nmI (b2i_f h0) ?_
  refine ax_if_ne f199_10 rfl ⟨by omega, by omega⟩ (fun q10 => absurd q10 (by omega)) (fun q10 => ?_)
  refine ax_aload_n f199_13 rfl ?_
  refine ax_iconst f199_14 ?_
  refine ax_cvI (rest := []) f199_15 o rfl rfl rfl rfl rfl rfl rfl rfl (c_144 o) ?_
  rintro h8 ⟨o8, f8⟩
  have o : Mo h8 _ _ _ _ _ _ _ _ := o8
  have a1 := a1.fr f8 (by omega)
  have a2 := a2.fr f8 (by omega)
  have a3 := a3.fr f8 (by omega)
  have a4 := a4.fr f8 (by omega)
  have a5 := a5.fr f8 (by omega)
  have hW := hW.mv f8 (by omega) (by omega) (by omega) (by omega)
  have aT := aT.fr f8 (by omega)
  have aC := aC.fr f8 (by omega)
  have aB := aB.fr f8 (by omega)
  have F := F.trans (f8.mono fun x e => by omega)
  refine ax_ireturn f199_18 rfl rfl ?_
  exact ⟨rI_of rfl, ⟨⟨_, _, _, _, _, o⟩, a1, ⟨_, a2, e2⟩, ⟨_, a3, e3⟩, a4, ⟨_, a5⟩, hW, aT, ⟨_, aC⟩, ⟨_, aB⟩⟩, F⟩
theorem m_199_2 {h : am_H} {R : Int → Int} {S : Int → Int → Int} {c : Int} {G : Nat → Int → Int} {b : Int → Int} {T : Int → Int} {L th : Int} (a : Mdl h (R, S, c, G, b, T, L) th) (k : okS (R, S, c, G, b, T, L)) {n z : Int} (hn : inI n) (h0 : 0 ≤ n ∧ n < blk R) (hz : inI z) (h1 : ¬ (0 ≤ z ∧ z ≤ 5)) : am_X 3 199 0 (am_ent 199 [.ref 120, .int (iI n), .int (iI z)]) [] h (Mot h (0) 2 (R, S, c, G, b, T, L)) := by
  show am_X 3 199 0 [.ref 120, .int (iI n), .int (iI z)] [] h _
  obtain ⟨⟨lk, pa, sp, fi, se, o⟩, a1, ⟨g2, a2, e2⟩, ⟨g3, a3, e3⟩, a4, ⟨g5, a5⟩, hW, aT, ⟨gC, aC⟩, gB, aB⟩ := a
  have o : Mo h c th lk pa L sp fi se := o
  have a1 : oI h 121 270 R := a1
  have e2 : ∀ k j, 0 ≤ k → k < c → 0 ≤ j → j < 270 → g2 (270 * k + j) = S k j := e2
  have e3 : ∀ (q : Nat) j, q < 2 → b q = 1 → 0 ≤ j → j < 270 → g3 (270 * q + j) = G q j := e3
  have a4 : oA 2 h 124 2 b := a4
  have aT : oI h 130 120 T := aT
  have i : inv R := k.1
  have iS : ∀ k, 0 ≤ k → k < c → inv (S k) := k.2.1
  have hc : 0 ≤ c ∧ c ≤ 14 := k.2.2.1
  have iG : ∀ q : Nat, q < 2 → b q = 1 → inv (G q) := k.2.2.2.1
  have hb : ∀ j, 0 ≤ j → j < 2 → b j = 0 ∨ b j = 1 := k.2.2.2.2.1
  have hL : 0 ≤ L ∧ L ≤ 120 := k.2.2.2.2.2.1
  have hT : ∀ j, 0 ≤ j → j < L → 0 ≤ T j ∧ T j ≤ 255 := k.2.2.2.2.2.2
  clear k
  have F : fr (fun x => 120 ≤ x ∧ x ≤ 132) h h := fr_rf
  refine ax_aload_n f199_0 rfl ?_
  refine ax_iconst f199_1 ?_
  refine ax_putfO f199_2 o rfl rfl rfl rfl (fun hp1 o1 r1 => ?_)
  have o : Mo hp1 _ _ _ _ _ _ _ _ := o1
  have a1 := a1.fr r1 (by omega)
  have a2 := a2.fr r1 (by omega)
  have a3 := a3.fr r1 (by omega)
  have a4 := a4.fr r1 (by omega)
  have a5 := a5.fr r1 (by omega)
  have hW := hW.mv r1 (by omega) (by omega) (by omega) (by omega)
  have aT := aT.fr r1 (by omega)
  have aC := aC.fr r1 (by omega)
  have aB := aB.fr r1 (by omega)
  have F := F.trans (r1.mono fun x e => by omega)
  refine ax_aload_n f199_5 rfl ?_
  refine ax_iload_n f199_6 rfl ?_
  refine ax_cvI (rest := []) f199_7 o rfl rfl rfl rfl rfl rfl rfl rfl (c_152 o a1 i.ff i.b12 hn) ?_
  intro _ e_
  obtain rfl := e_.symm
  clear e_
  refine ax_nmI (b2i_t h0) ?_
  refine ax_if_ne f199_10 rfl ⟨by omega, by omega⟩ (fun q10 => ?_) (fun q10 => absurd q10 (by omega))
  refine ax_iload_n f199_19 rfl ?_
  refine ax_iconst f199_20 ?_
  refine ax_iconst f199_21 ?_
  refine ax_csI (rest := []) f199_22 (Or.inl rfl) rfl rfl rfl rfl rfl rfl (c_145 hz ⟨by decide, by decide⟩ ⟨by decide, by decide⟩) ?_
  intro _ e_
  obtain rfl := e_.symm
  clear e_
  refine ax_nmI (b2i_f h1) ?_
  refine ax_if_ne f199_25 rfl ⟨by omega, by omega⟩ (fun q25 => absurd q25 (by omega)) (fun q25 => ?_)
  refine ax_aload_n f199_28 rfl ?_
  refine ax_iconst f199_29 ?_
  refine ax_cvI (rest := []) f199_30 o rfl rfl rfl rfl rfl rfl rfl rfl (c_144 o) ?_
  rintro h8 ⟨o8, f8⟩
  have o : Mo h8 _ _ _ _ _ _ _ _ := o8
  have a1 := a1.fr f8 (by omega)
  have a2 := a2.fr f8 (by omega)
  have a3 := a3.fr f8 (by omega)
  have a4 := a4.fr f8 (by omega)
  have a5 := a5.fr f8 (by omega)
  have hW := hW.mv f8 (by omega) (by omega) (by omega) (by omega)
  have aT := aT.fr f8 (by omega)
  have aC := aC.fr f8 (by omega)
  have aB := aB.fr f8 (by omega)
  have F := F.trans (f8.mono fun x e => by omega)
  refine ax_ireturn f199_33 rfl rfl ?_
  exact ⟨rI_of rfl, ⟨⟨_, _, _, _, _, o⟩, a1, ⟨_, a2, e2⟩, ⟨_, a3, e3⟩, a4, ⟨_, a5⟩, hW, aT, ⟨_, aC⟩, ⟨_, aB⟩⟩, F⟩
theorem m_199_3 {h : am_H} {R : Int → Int} {S : Int → Int → Int} {c : Int} {G : Nat → Int → Int} {b : Int → Int} {T : Int → Int} {L th : Int} (a : Mdl h (R, S, c, G, b, T, L) th) (k : okS (R, S, c, G, b, T, L)) {n : Int} (hn : inI n) (h0 : 0 ≤ n ∧ n < blk R) (h1 : R 192 = 0) : am_X 3 199 0 (am_ent 199 [.ref 120, .int (iI n), .int (iI 5)]) [] h (Mot h (0) 3 (R, S, c, G, b, T, L)) := by
  show am_X 3 199 0 [.ref 120, .int (iI n), .int (iI 5)] [] h _
  obtain ⟨⟨lk, pa, sp, fi, se, o⟩, a1, ⟨g2, a2, e2⟩, ⟨g3, a3, e3⟩, a4, ⟨g5, a5⟩, hW, aT, ⟨gC, aC⟩, gB, aB⟩ := a
  have o : Mo h c th lk pa L sp fi se := o
  have a1 : oI h 121 270 R := a1
  have e2 : ∀ k j, 0 ≤ k → k < c → 0 ≤ j → j < 270 → g2 (270 * k + j) = S k j := e2
  have e3 : ∀ (q : Nat) j, q < 2 → b q = 1 → 0 ≤ j → j < 270 → g3 (270 * q + j) = G q j := e3
  have a4 : oA 2 h 124 2 b := a4
  have aT : oI h 130 120 T := aT
  have i : inv R := k.1
  have iS : ∀ k, 0 ≤ k → k < c → inv (S k) := k.2.1
  have hc : 0 ≤ c ∧ c ≤ 14 := k.2.2.1
  have iG : ∀ q : Nat, q < 2 → b q = 1 → inv (G q) := k.2.2.2.1
  have hb : ∀ j, 0 ≤ j → j < 2 → b j = 0 ∨ b j = 1 := k.2.2.2.2.1
  have hL : 0 ≤ L ∧ L ≤ 120 := k.2.2.2.2.2.1
  have hT : ∀ j, 0 ≤ j → j < L → 0 ≤ T j ∧ T j ≤ 255 := k.2.2.2.2.2.2
  clear k
  have F : fr (fun x => 120 ≤ x ∧ x ≤ 132) h h := fr_rf
  have hz : inI 5 := ⟨by omega, by omega⟩
  refine ax_aload_n f199_0 rfl ?_
  refine ax_iconst f199_1 ?_
  refine ax_putfO f199_2 o rfl rfl rfl rfl (fun hp1 o1 r1 => ?_)
  have o : Mo hp1 _ _ _ _ _ _ _ _ := o1
  have a1 := a1.fr r1 (by omega)
  have a2 := a2.fr r1 (by omega)
  have a3 := a3.fr r1 (by omega)
  have a4 := a4.fr r1 (by omega)
  have a5 := a5.fr r1 (by omega)
  have hW := hW.mv r1 (by omega) (by omega) (by omega) (by omega)
  have aT := aT.fr r1 (by omega)
  have aC := aC.fr r1 (by omega)
  have aB := aB.fr r1 (by omega)
  have F := F.trans (r1.mono fun x e => by omega)
  refine ax_aload_n f199_5 rfl ?_
  refine ax_iload_n f199_6 rfl ?_
  refine ax_cvI (rest := []) f199_7 o rfl rfl rfl rfl rfl rfl rfl rfl (c_152 o a1 i.ff i.b12 hn) ?_
  intro _ e_
  obtain rfl := e_.symm
  clear e_
  refine ax_nmI (b2i_t h0) ?_
  refine ax_if_ne f199_10 rfl ⟨by omega, by omega⟩ (fun q10 => ?_) (fun q10 => absurd q10 (by omega))
  refine ax_iload_n f199_19 rfl ?_
  refine ax_iconst f199_20 ?_
  refine ax_iconst f199_21 ?_
  refine ax_csI (rest := []) f199_22 (Or.inl rfl) rfl rfl rfl rfl rfl rfl (c_145 hz ⟨by decide, by decide⟩ ⟨by decide, by decide⟩) ?_
  intro _ e_
  obtain rfl := e_.symm
  clear e_
  refine ax_nmI (b2i_t (show (0 : Int) ≤ 5 ∧ (5 : Int) ≤ 5 by omega)) ?_
  refine ax_if_ne f199_25 rfl ⟨by omega, by omega⟩ (fun q25 => ?_) (fun q25 => absurd q25 (by omega))
  refine ax_iload_n f199_34 rfl ?_
  refine ax_iconst f199_35 ?_
  refine ax_icmp_ne f199_36 rfl ⟨by omega, by omega⟩ ⟨by omega, by omega⟩ (fun q36 => absurd q36 (by omega)) (fun q36 => ?_)
  refine ax_aload_n f199_39 rfl ?_
  refine ax_getf f199_40 o rfl ?_
  refine ax_sipush f199_43 ?_
  refine ax_ialdO f199_46 (by decide) a1 (by omega) (by omega) rfl ?_
  refine ax_if_ne f199_47 rfl ⟨by omega, by omega⟩ (fun q47 => absurd q47 (by omega)) (fun q47 => ?_)
  refine ax_aload_n f199_50 rfl ?_
  refine ax_iconst f199_51 ?_
  refine ax_cvI (rest := []) f199_52 o rfl rfl rfl rfl rfl rfl rfl rfl (c_144 o) ?_
  rintro h8 ⟨o8, f8⟩
  have o : Mo h8 _ _ _ _ _ _ _ _ := o8
  have a1 := a1.fr f8 (by omega)
  have a2 := a2.fr f8 (by omega)
  have a3 := a3.fr f8 (by omega)
  have a4 := a4.fr f8 (by omega)
  have a5 := a5.fr f8 (by omega)
  have hW := hW.mv f8 (by omega) (by omega) (by omega) (by omega)
  have aT := aT.fr f8 (by omega)
  have aC := aC.fr f8 (by omega)
  have aB := aB.fr f8 (by omega)
  have F := F.trans (f8.mono fun x e => by omega)
  refine ax_goto f199_55 rfl ?_
  refine ax_ireturn f199_64 rfl rfl ?_
  exact ⟨rI_of rfl, ⟨⟨_, _, _, _, _, o⟩, a1, ⟨_, a2, e2⟩, ⟨_, a3, e3⟩, a4, ⟨_, a5⟩, hW, aT, ⟨_, aC⟩, ⟨_, aB⟩⟩, F⟩
theorem m_199 {h : am_H} {R : Int → Int} {S : Int → Int → Int} {c : Int} {G : Nat → Int → Int} {b : Int → Int} {T : Int → Int} {L th : Int} (a : Mdl h (R, S, c, G, b, T, L) th) (k : okS (R, S, c, G, b, T, L)) {n z : Int} (hn : inI n) (h0 : 0 ≤ n ∧ n < blk R) (h1 : 0 ≤ z ∧ z ≤ 5) (h2 : ¬ (z = 5 ∧ R 192 = 0)) : am_X 3 199 0 (am_ent 199 [.ref 120, .int (iI n), .int (iI z)]) [] h (Mot h (bof R n z) 0 (R, S, c, G, b, T, L)) := by
  show am_X 3 199 0 [.ref 120, .int (iI n), .int (iI z)] [] h _
  obtain ⟨⟨lk, pa, sp, fi, se, o⟩, a1, ⟨g2, a2, e2⟩, ⟨g3, a3, e3⟩, a4, ⟨g5, a5⟩, hW, aT, ⟨gC, aC⟩, gB, aB⟩ := a
  have o : Mo h c th lk pa L sp fi se := o
  have a1 : oI h 121 270 R := a1
  have e2 : ∀ k j, 0 ≤ k → k < c → 0 ≤ j → j < 270 → g2 (270 * k + j) = S k j := e2
  have e3 : ∀ (q : Nat) j, q < 2 → b q = 1 → 0 ≤ j → j < 270 → g3 (270 * q + j) = G q j := e3
  have a4 : oA 2 h 124 2 b := a4
  have aT : oI h 130 120 T := aT
  have i : inv R := k.1
  have iS : ∀ k, 0 ≤ k → k < c → inv (S k) := k.2.1
  have hc : 0 ≤ c ∧ c ≤ 14 := k.2.2.1
  have iG : ∀ q : Nat, q < 2 → b q = 1 → inv (G q) := k.2.2.2.1
  have hb : ∀ j, 0 ≤ j → j < 2 → b j = 0 ∨ b j = 1 := k.2.2.2.2.1
  have hL : 0 ≤ L ∧ L ≤ 120 := k.2.2.2.2.2.1
  have hT : ∀ j, 0 ≤ j → j < L → 0 ≤ T j ∧ T j ≤ 255 := k.2.2.2.2.2.2
  clear k
  have F : fr (fun x => 120 ≤ x ∧ x ≤ 132) h h := fr_rf
  have hz : inI z := ⟨by omega, by omega⟩
  have htd := i.td
  refine ax_aload_n f199_0 rfl ?_
  refine ax_iconst f199_1 ?_
  refine ax_putfO f199_2 o rfl rfl rfl rfl (fun hp1 o1 r1 => ?_)
  have o : Mo hp1 _ _ _ _ _ _ _ _ := o1
  have a1 := a1.fr r1 (by omega)
  have a2 := a2.fr r1 (by omega)
  have a3 := a3.fr r1 (by omega)
  have a4 := a4.fr r1 (by omega)
  have a5 := a5.fr r1 (by omega)
  have hW := hW.mv r1 (by omega) (by omega) (by omega) (by omega)
  have aT := aT.fr r1 (by omega)
  have aC := aC.fr r1 (by omega)
  have aB := aB.fr r1 (by omega)
  have F := F.trans (r1.mono fun x e => by omega)
  refine ax_aload_n f199_5 rfl ?_
  refine ax_iload_n f199_6 rfl ?_
  refine ax_cvI (rest := []) f199_7 o rfl rfl rfl rfl rfl rfl rfl rfl (c_152 o a1 i.ff i.b12 hn) ?_
  intro _ e_
  obtain rfl := e_.symm
  clear e_
  refine ax_nmI (b2i_t h0) ?_
  refine ax_if_ne f199_10 rfl ⟨by omega, by omega⟩ (fun q10 => ?_) (fun q10 => absurd q10 (by omega))
  refine ax_iload_n f199_19 rfl ?_
  refine ax_iconst f199_20 ?_
  refine ax_iconst f199_21 ?_
  refine ax_csI (rest := []) f199_22 (Or.inl rfl) rfl rfl rfl rfl rfl rfl (c_145 hz ⟨by decide, by decide⟩ ⟨by decide, by decide⟩) ?_
  intro _ e_
  obtain rfl := e_.symm
  clear e_
  refine ax_nmI (b2i_t h1) ?_
  refine ax_if_ne f199_25 rfl ⟨by omega, by omega⟩ (fun q25 => ?_) (fun q25 => absurd q25 (by omega))
  refine ax_iload_n f199_34 rfl ?_
  refine ax_iconst f199_35 ?_
  refine ax_icmp_ne f199_36 rfl ⟨by omega, by omega⟩ ⟨by omega, by omega⟩ (fun q36 => ?_) (fun q36 => ?_)
  · refine ax_aload_n f199_58 rfl ?_
    refine ax_iload_n f199_59 rfl ?_
    refine ax_iload_n f199_60 rfl ?_
    refine ax_cvI (rest := []) f199_61 o rfl rfl rfl rfl rfl rfl rfl rfl (c_198 o a1 i h0 h1) ?_
    intro _ e_
    obtain rfl := e_.symm
    clear e_
    refine ax_ireturn f199_64 rfl rfl ?_
    exact ⟨rI_of rfl, ⟨⟨_, _, _, _, _, o⟩, a1, ⟨_, a2, e2⟩, ⟨_, a3, e3⟩, a4, ⟨_, a5⟩, hW, aT, ⟨_, aC⟩, ⟨_, aB⟩⟩, F⟩
  · refine ax_aload_n f199_39 rfl ?_
    refine ax_getf f199_40 o rfl ?_
    refine ax_sipush f199_43 ?_
    refine ax_ialdO f199_46 (by decide) a1 (by omega) (by omega) rfl ?_
    refine ax_if_ne f199_47 rfl ⟨by omega, by omega⟩ (fun q47 => ?_) (fun q47 => absurd q47 (by omega))
    refine ax_aload_n f199_58 rfl ?_
    refine ax_iload_n f199_59 rfl ?_
    refine ax_iload_n f199_60 rfl ?_
    refine ax_cvI (rest := []) f199_61 o rfl rfl rfl rfl rfl rfl rfl rfl (c_198 o a1 i h0 h1) ?_
    intro _ e_
    obtain rfl := e_.symm
    clear e_
    refine ax_ireturn f199_64 rfl rfl ?_
    exact ⟨rI_of rfl, ⟨⟨_, _, _, _, _, o⟩, a1, ⟨_, a2, e2⟩, ⟨_, a3, e3⟩, a4, ⟨_, a5⟩, hW, aT, ⟨_, aC⟩, ⟨_, aB⟩⟩, F⟩
theorem m_200_1 {h : am_H} {R : Int → Int} {S : Int → Int → Int} {c : Int} {G : Nat → Int → Int} {b : Int → Int} {T : Int → Int} {L th : Int} (a : Mdl h (R, S, c, G, b, T, L) th) (k : okS (R, S, c, G, b, T, L)) {r0 v : Int} (hr : inI r0) (h0 : ¬ (0 ≤ r0 ∧ r0 < 48)) : am_X 2 200 0 (am_ent 200 [.ref 120, .int (iI r0), .int (iI v)]) [] h (Mot h (0) 1 (R, S, c, G, b, T, L)) := by
  show am_X 2 200 0 [.ref 120, .int (iI r0), .int (iI v), am_u] [] h _
  obtain ⟨⟨lk, pa, sp, fi, se, o⟩, a1, ⟨g2, a2, e2⟩, ⟨g3, a3, e3⟩, a4, ⟨g5, a5⟩, hW, aT, ⟨gC, aC⟩, gB, aB⟩ := a
  have o : Mo h c th lk pa L sp fi se := o
  have a1 : oI h 121 270 R := a1
  have e2 : ∀ k j, 0 ≤ k → k < c → 0 ≤ j → j < 270 → g2 (270 * k + j) = S k j := e2
  have e3 : ∀ (q : Nat) j, q < 2 → b q = 1 → 0 ≤ j → j < 270 → g3 (270 * q + j) = G q j := e3
  have a4 : oA 2 h 124 2 b := a4
  have aT : oI h 130 120 T := aT
  have i : inv R := k.1
  have iS : ∀ k, 0 ≤ k → k < c → inv (S k) := k.2.1
  have hc : 0 ≤ c ∧ c ≤ 14 := k.2.2.1
  have iG : ∀ q : Nat, q < 2 → b q = 1 → inv (G q) := k.2.2.2.1
  have hb : ∀ j, 0 ≤ j → j < 2 → b j = 0 ∨ b j = 1 := k.2.2.2.2.1
  have hL : 0 ≤ L ∧ L ≤ 120 := k.2.2.2.2.2.1
  have hT : ∀ j, 0 ≤ j → j < L → 0 ≤ T j ∧ T j ≤ 255 := k.2.2.2.2.2.2
  clear k
  have F : fr (fun x => 120 ≤ x ∧ x ≤ 132) h h := fr_rf
  refine ax_aload_n f200_0 rfl ?_
  refine ax_iconst f200_1 ?_
  refine ax_putfO f200_2 o rfl rfl rfl rfl (fun hp1 o1 r1 => ?_)
  have o : Mo hp1 _ _ _ _ _ _ _ _ := o1
  have a1 := a1.fr r1 (by omega)
  have a2 := a2.fr r1 (by omega)
  have a3 := a3.fr r1 (by omega)
  have a4 := a4.fr r1 (by omega)
  have a5 := a5.fr r1 (by omega)
  have hW := hW.mv r1 (by omega) (by omega) (by omega) (by omega)
  have aT := aT.fr r1 (by omega)
  have aC := aC.fr r1 (by omega)
  have aB := aB.fr r1 (by omega)
  have F := F.trans (r1.mono fun x e => by omega)
  refine ax_iload_n f200_5 rfl ?_
  refine ax_csI (rest := []) f200_6 (Or.inl rfl) rfl rfl rfl rfl rfl rfl (c_147 hr) ?_
  intro _ e_
  obtain rfl := e_.symm
  clear e_
  refine ax_nmI (b2i_f (show ¬ (0 ≤ r0 ∧ r0 ≤ 47) by omega)) ?_
  refine ax_if_ne f200_9 rfl ⟨by omega, by omega⟩ (fun q9 => absurd q9 (by omega)) (fun q9 => ?_)
  refine ax_aload_n f200_12 rfl ?_
  refine ax_iconst f200_13 ?_
  refine ax_cvI (rest := []) f200_14 o rfl rfl rfl rfl rfl rfl rfl rfl (c_144 o) ?_
  rintro h8 ⟨o8, f8⟩
  have o : Mo h8 _ _ _ _ _ _ _ _ := o8
  have a1 := a1.fr f8 (by omega)
  have a2 := a2.fr f8 (by omega)
  have a3 := a3.fr f8 (by omega)
  have a4 := a4.fr f8 (by omega)
  have a5 := a5.fr f8 (by omega)
  have hW := hW.mv f8 (by omega) (by omega) (by omega) (by omega)
  have aT := aT.fr f8 (by omega)
  have aC := aC.fr f8 (by omega)
  have aB := aB.fr f8 (by omega)
  have F := F.trans (f8.mono fun x e => by omega)
  refine ax_ireturn f200_17 rfl rfl ?_
  exact ⟨rI_of rfl, ⟨⟨_, _, _, _, _, o⟩, a1, ⟨_, a2, e2⟩, ⟨_, a3, e3⟩, a4, ⟨_, a5⟩, hW, aT, ⟨_, aC⟩, ⟨_, aB⟩⟩, F⟩
theorem m_200_2 {h : am_H} {R : Int → Int} {S : Int → Int → Int} {c : Int} {G : Nat → Int → Int} {b : Int → Int} {T : Int → Int} {L th : Int} (a : Mdl h (R, S, c, G, b, T, L) th) (k : okS (R, S, c, G, b, T, L)) {r0 v : Int} (hr : inI r0) (hv : inI v) (h0 : 0 ≤ r0 ∧ r0 < 48) (h1 : ¬ (1 ≤ v ∧ v ≤ 99)) : am_X 2 200 0 (am_ent 200 [.ref 120, .int (iI r0), .int (iI v)]) [] h (Mot h (0) 2 (R, S, c, G, b, T, L)) := by
  show am_X 2 200 0 [.ref 120, .int (iI r0), .int (iI v), am_u] [] h _
  obtain ⟨⟨lk, pa, sp, fi, se, o⟩, a1, ⟨g2, a2, e2⟩, ⟨g3, a3, e3⟩, a4, ⟨g5, a5⟩, hW, aT, ⟨gC, aC⟩, gB, aB⟩ := a
  have o : Mo h c th lk pa L sp fi se := o
  have a1 : oI h 121 270 R := a1
  have e2 : ∀ k j, 0 ≤ k → k < c → 0 ≤ j → j < 270 → g2 (270 * k + j) = S k j := e2
  have e3 : ∀ (q : Nat) j, q < 2 → b q = 1 → 0 ≤ j → j < 270 → g3 (270 * q + j) = G q j := e3
  have a4 : oA 2 h 124 2 b := a4
  have aT : oI h 130 120 T := aT
  have i : inv R := k.1
  have iS : ∀ k, 0 ≤ k → k < c → inv (S k) := k.2.1
  have hc : 0 ≤ c ∧ c ≤ 14 := k.2.2.1
  have iG : ∀ q : Nat, q < 2 → b q = 1 → inv (G q) := k.2.2.2.1
  have hb : ∀ j, 0 ≤ j → j < 2 → b j = 0 ∨ b j = 1 := k.2.2.2.2.1
  have hL : 0 ≤ L ∧ L ≤ 120 := k.2.2.2.2.2.1
  have hT : ∀ j, 0 ≤ j → j < L → 0 ≤ T j ∧ T j ≤ 255 := k.2.2.2.2.2.2
  clear k
  have F : fr (fun x => 120 ≤ x ∧ x ≤ 132) h h := fr_rf
  refine ax_aload_n f200_0 rfl ?_
  refine ax_iconst f200_1 ?_
  refine ax_putfO f200_2 o rfl rfl rfl rfl (fun hp1 o1 r1 => ?_)
  have o : Mo hp1 _ _ _ _ _ _ _ _ := o1
  have a1 := a1.fr r1 (by omega)
  have a2 := a2.fr r1 (by omega)
  have a3 := a3.fr r1 (by omega)
  have a4 := a4.fr r1 (by omega)
  have a5 := a5.fr r1 (by omega)
  have hW := hW.mv r1 (by omega) (by omega) (by omega) (by omega)
  have aT := aT.fr r1 (by omega)
  have aC := aC.fr r1 (by omega)
  have aB := aB.fr r1 (by omega)
  have F := F.trans (r1.mono fun x e => by omega)
  refine ax_iload_n f200_5 rfl ?_
  refine ax_csI (rest := []) f200_6 (Or.inl rfl) rfl rfl rfl rfl rfl rfl (c_147 hr) ?_
  intro _ e_
  obtain rfl := e_.symm
  clear e_
  refine ax_nmI (b2i_t (show 0 ≤ r0 ∧ r0 ≤ 47 by omega)) ?_
  refine ax_if_ne f200_9 rfl ⟨by omega, by omega⟩ (fun q9 => ?_) (fun q9 => absurd q9 (by omega))
  refine ax_iload_n f200_18 rfl ?_
  refine ax_iconst f200_19 ?_
  refine ax_bipush f200_20 ?_
  refine ax_csI (rest := []) f200_22 (Or.inl rfl) rfl rfl rfl rfl rfl rfl (c_145 hv ⟨by decide, by decide⟩ ⟨by decide, by decide⟩) ?_
  intro _ e_
  obtain rfl := e_.symm
  clear e_
  refine ax_nmI (b2i_f h1) ?_
  refine ax_if_ne f200_25 rfl ⟨by omega, by omega⟩ (fun q25 => absurd q25 (by omega)) (fun q25 => ?_)
  refine ax_aload_n f200_28 rfl ?_
  refine ax_iconst f200_29 ?_
  refine ax_cvI (rest := []) f200_30 o rfl rfl rfl rfl rfl rfl rfl rfl (c_144 o) ?_
  rintro h8 ⟨o8, f8⟩
  have o : Mo h8 _ _ _ _ _ _ _ _ := o8
  have a1 := a1.fr f8 (by omega)
  have a2 := a2.fr f8 (by omega)
  have a3 := a3.fr f8 (by omega)
  have a4 := a4.fr f8 (by omega)
  have a5 := a5.fr f8 (by omega)
  have hW := hW.mv f8 (by omega) (by omega) (by omega) (by omega)
  have aT := aT.fr f8 (by omega)
  have aC := aC.fr f8 (by omega)
  have aB := aB.fr f8 (by omega)
  have F := F.trans (f8.mono fun x e => by omega)
  refine ax_ireturn f200_33 rfl rfl ?_
  exact ⟨rI_of rfl, ⟨⟨_, _, _, _, _, o⟩, a1, ⟨_, a2, e2⟩, ⟨_, a3, e3⟩, a4, ⟨_, a5⟩, hW, aT, ⟨_, aC⟩, ⟨_, aB⟩⟩, F⟩
theorem m_200 {h : am_H} {R : Int → Int} {S : Int → Int → Int} {c : Int} {G : Nat → Int → Int} {b : Int → Int} {T : Int → Int} {L th : Int} (a : Mdl h (R, S, c, G, b, T, L) th) (k : okS (R, S, c, G, b, T, L)) {r0 v : Int} (hr : inI r0) (hv : inI v) (h0 : 0 ≤ r0 ∧ r0 < 48) (h1 : 1 ≤ v ∧ v ≤ 99) : am_X 2 200 0 (am_ent 200 [.ref 120, .int (iI r0), .int (iI v)]) [] h (Mot h (R r0) 0 (uZ R r0 v, rmS S c R, min (c + 1) 14, G, b, T, L)) := by
  show am_X 2 200 0 [.ref 120, .int (iI r0), .int (iI v), am_u] [] h _
  obtain ⟨⟨lk, pa, sp, fi, se, o⟩, a1, ⟨g2, a2, e2⟩, ⟨g3, a3, e3⟩, a4, ⟨g5, a5⟩, hW, aT, ⟨gC, aC⟩, gB, aB⟩ := a
  have o : Mo h c th lk pa L sp fi se := o
  have a1 : oI h 121 270 R := a1
  have e2 : ∀ k j, 0 ≤ k → k < c → 0 ≤ j → j < 270 → g2 (270 * k + j) = S k j := e2
  have e3 : ∀ (q : Nat) j, q < 2 → b q = 1 → 0 ≤ j → j < 270 → g3 (270 * q + j) = G q j := e3
  have a4 : oA 2 h 124 2 b := a4
  have aT : oI h 130 120 T := aT
  have i : inv R := k.1
  have iS : ∀ k, 0 ≤ k → k < c → inv (S k) := k.2.1
  have hc : 0 ≤ c ∧ c ≤ 14 := k.2.2.1
  have iG : ∀ q : Nat, q < 2 → b q = 1 → inv (G q) := k.2.2.2.1
  have hb : ∀ j, 0 ≤ j → j < 2 → b j = 0 ∨ b j = 1 := k.2.2.2.2.1
  have hL : 0 ≤ L ∧ L ≤ 120 := k.2.2.2.2.2.1
  have hT : ∀ j, 0 ≤ j → j < L → 0 ≤ T j ∧ T j ≤ 255 := k.2.2.2.2.2.2
  clear k
  have F : fr (fun x => 120 ≤ x ∧ x ≤ 132) h h := fr_rf
  refine ax_aload_n f200_0 rfl ?_
  refine ax_iconst f200_1 ?_
  refine ax_putfO f200_2 o rfl rfl rfl rfl (fun hp1 o1 r1 => ?_)
  have o : Mo hp1 _ _ _ _ _ _ _ _ := o1
  have a1 := a1.fr r1 (by omega)
  have a2 := a2.fr r1 (by omega)
  have a3 := a3.fr r1 (by omega)
  have a4 := a4.fr r1 (by omega)
  have a5 := a5.fr r1 (by omega)
  have hW := hW.mv r1 (by omega) (by omega) (by omega) (by omega)
  have aT := aT.fr r1 (by omega)
  have aC := aC.fr r1 (by omega)
  have aB := aB.fr r1 (by omega)
  have F := F.trans (r1.mono fun x e => by omega)
  refine ax_iload_n f200_5 rfl ?_
  refine ax_csI (rest := []) f200_6 (Or.inl rfl) rfl rfl rfl rfl rfl rfl (c_147 hr) ?_
  intro _ e_
  obtain rfl := e_.symm
  clear e_
  refine ax_nmI (b2i_t (show 0 ≤ r0 ∧ r0 ≤ 47 by omega)) ?_
  refine ax_if_ne f200_9 rfl ⟨by omega, by omega⟩ (fun q9 => ?_) (fun q9 => absurd q9 (by omega))
  refine ax_iload_n f200_18 rfl ?_
  refine ax_iconst f200_19 ?_
  refine ax_bipush f200_20 ?_
  refine ax_csI (rest := []) f200_22 (Or.inl rfl) rfl rfl rfl rfl rfl rfl (c_145 hv ⟨by decide, by decide⟩ ⟨by decide, by decide⟩) ?_
  intro _ e_
  obtain rfl := e_.symm
  clear e_
  refine ax_nmI (b2i_t h1) ?_
  refine ax_if_ne f200_25 rfl ⟨by omega, by omega⟩ (fun q25 => ?_) (fun q25 => absurd q25 (by omega))
  refine ax_aload_n f200_34 rfl ?_
  refine ax_cvV (rest := []) f200_35 o rfl rfl rfl rfl rfl rfl rfl rfl (c_148 o a1 a2 hc e2) ?_
  rintro h7 ⟨o7, a17, ⟨g7, a27, e27⟩, f7⟩
  have e2 := e27
  have o : Mo h7 _ _ _ _ _ _ _ _ := o7
  have a1 := a17
  have a2 := a27
  have a3 := a3.fr f7 (by omega)
  have a4 := a4.fr f7 (by omega)
  have a5 := a5.fr f7 (by omega)
  have hW := hW.mv f7 (by omega) (by omega) (by omega) (by omega)
  have aT := aT.fr f7 (by omega)
  have aC := aC.fr f7 (by omega)
  have aB := aB.fr f7 (by omega)
  have F := F.trans (f7.mono fun x e => by omega)
  refine ax_aload_n f200_38 rfl ?_
  refine ax_getf f200_39 o rfl ?_
  refine ax_iconst f200_42 ?_
  refine ax_iload_n f200_43 rfl ?_
  refine ax_iadd f200_44 ?_
  rw [Int.zero_add]
  refine ax_ialdO f200_45 (by decide) a1 (by omega) (by omega) rfl ?_
  refine ax_istore_n (ls' := [_, _, _, _]) f200_46 (Nat.le_of_ble_eq_true rfl) rfl ?_
  refine ax_aload_n f200_47 rfl ?_
  refine ax_getf f200_48 o rfl ?_
  refine ax_iconst f200_51 ?_
  refine ax_iload_n f200_52 rfl ?_
  refine ax_iadd f200_53 ?_
  rw [Int.zero_add]
  refine ax_iload_n f200_54 rfl ?_
  refine ax_iastO f200_55 a1 (by omega) (by omega) rfl (fun hp3 o3 r3 => ?_)
  have o : Mo hp3 _ _ _ _ _ _ _ _ := r3.at (q := 120) (by omega) o
  have a1 := o3
  have a2 := a2.fr r3 (by omega)
  have a3 := a3.fr r3 (by omega)
  have a4 := a4.fr r3 (by omega)
  have a5 := a5.fr r3 (by omega)
  have hW := hW.mv r3 (by omega) (by omega) (by omega) (by omega)
  have aT := aT.fr r3 (by omega)
  have aC := aC.fr r3 (by omega)
  have aB := aB.fr r3 (by omega)
  have F := F.trans (r3.mono fun x e => by omega)
  refine ax_iload_n f200_56 rfl ?_
  refine ax_ireturn f200_57 rfl rfl ?_
  exact ⟨rI_of rfl, ⟨⟨_, _, _, _, _, o⟩, a1, ⟨_, a2, e2⟩, ⟨_, a3, e3⟩, a4, ⟨_, a5⟩, hW, aT, ⟨_, aC⟩, ⟨_, aB⟩⟩, F⟩
theorem m_201_1 {h : am_H} {R : Int → Int} {S : Int → Int → Int} {c : Int} {G : Nat → Int → Int} {b : Int → Int} {T : Int → Int} {L th : Int} (a : Mdl h (R, S, c, G, b, T, L) th) (k : okS (R, S, c, G, b, T, L)) {r0 y : Int} (hr : inI r0) (h0 : ¬ (0 ≤ r0 ∧ r0 < 48)) : am_X 2 201 0 (am_ent 201 [.ref 120, .int (iI r0), .int (iI y)]) [] h (Mot h (0) 1 (R, S, c, G, b, T, L)) := by
  show am_X 2 201 0 [.ref 120, .int (iI r0), .int (iI y)] [] h _
  obtain ⟨⟨lk, pa, sp, fi, se, o⟩, a1, ⟨g2, a2, e2⟩, ⟨g3, a3, e3⟩, a4, ⟨g5, a5⟩, hW, aT, ⟨gC, aC⟩, gB, aB⟩ := a
  have o : Mo h c th lk pa L sp fi se := o
  have a1 : oI h 121 270 R := a1
  have e2 : ∀ k j, 0 ≤ k → k < c → 0 ≤ j → j < 270 → g2 (270 * k + j) = S k j := e2
  have e3 : ∀ (q : Nat) j, q < 2 → b q = 1 → 0 ≤ j → j < 270 → g3 (270 * q + j) = G q j := e3
  have a4 : oA 2 h 124 2 b := a4
  have aT : oI h 130 120 T := aT
  have i : inv R := k.1
  have iS : ∀ k, 0 ≤ k → k < c → inv (S k) := k.2.1
  have hc : 0 ≤ c ∧ c ≤ 14 := k.2.2.1
  have iG : ∀ q : Nat, q < 2 → b q = 1 → inv (G q) := k.2.2.2.1
  have hb : ∀ j, 0 ≤ j → j < 2 → b j = 0 ∨ b j = 1 := k.2.2.2.2.1
  have hL : 0 ≤ L ∧ L ≤ 120 := k.2.2.2.2.2.1
  have hT : ∀ j, 0 ≤ j → j < L → 0 ≤ T j ∧ T j ≤ 255 := k.2.2.2.2.2.2
  clear k
  have F : fr (fun x => 120 ≤ x ∧ x ≤ 132) h h := fr_rf
  refine ax_aload_n f201_0 rfl ?_
  refine ax_iconst f201_1 ?_
  refine ax_putfO f201_2 o rfl rfl rfl rfl (fun hp1 o1 r1 => ?_)
  have o : Mo hp1 _ _ _ _ _ _ _ _ := o1
  have a1 := a1.fr r1 (by omega)
  have a2 := a2.fr r1 (by omega)
  have a3 := a3.fr r1 (by omega)
  have a4 := a4.fr r1 (by omega)
  have a5 := a5.fr r1 (by omega)
  have hW := hW.mv r1 (by omega) (by omega) (by omega) (by omega)
  have aT := aT.fr r1 (by omega)
  have aC := aC.fr r1 (by omega)
  have aB := aB.fr r1 (by omega)
  have F := F.trans (r1.mono fun x e => by omega)
  refine ax_iload_n f201_5 rfl ?_
  refine ax_csI (rest := []) f201_6 (Or.inl rfl) rfl rfl rfl rfl rfl rfl (c_147 hr) ?_
  intro _ e_
  obtain rfl := e_.symm
  clear e_
  refine ax_nmI (b2i_f (show ¬ (0 ≤ r0 ∧ r0 ≤ 47) by omega)) ?_
  refine ax_if_ne f201_9 rfl ⟨by omega, by omega⟩ (fun q9 => absurd q9 (by omega)) (fun q9 => ?_)
  refine ax_aload_n f201_12 rfl ?_
  refine ax_iconst f201_13 ?_
  refine ax_cvI (rest := []) f201_14 o rfl rfl rfl rfl rfl rfl rfl rfl (c_144 o) ?_
  rintro h8 ⟨o8, f8⟩
  have o : Mo h8 _ _ _ _ _ _ _ _ := o8
  have a1 := a1.fr f8 (by omega)
  have a2 := a2.fr f8 (by omega)
  have a3 := a3.fr f8 (by omega)
  have a4 := a4.fr f8 (by omega)
  have a5 := a5.fr f8 (by omega)
  have hW := hW.mv f8 (by omega) (by omega) (by omega) (by omega)
  have aT := aT.fr f8 (by omega)
  have aC := aC.fr f8 (by omega)
  have aB := aB.fr f8 (by omega)
  have F := F.trans (f8.mono fun x e => by omega)
  refine ax_ireturn f201_17 rfl rfl ?_
  exact ⟨rI_of rfl, ⟨⟨_, _, _, _, _, o⟩, a1, ⟨_, a2, e2⟩, ⟨_, a3, e3⟩, a4, ⟨_, a5⟩, hW, aT, ⟨_, aC⟩, ⟨_, aB⟩⟩, F⟩
theorem m_201 {h : am_H} {R : Int → Int} {S : Int → Int → Int} {c : Int} {G : Nat → Int → Int} {b : Int → Int} {T : Int → Int} {L th : Int} (a : Mdl h (R, S, c, G, b, T, L) th) (k : okS (R, S, c, G, b, T, L)) {r0 y : Int} (hr : inI r0) (hy : y = 0 ∨ y = 1) (h0 : 0 ≤ r0 ∧ r0 < 48) : am_X 2 201 0 (am_ent 201 [.ref 120, .int (iI r0), .int (iI y)]) [] h (Mot h (sm (fun j => uZ R (48 + r0) y (48 + j)) 0 48) 0 (uZ R (48 + r0) y, rmS S c R, min (c + 1) 14, G, b, T, L)) := by
  show am_X 2 201 0 [.ref 120, .int (iI r0), .int (iI y)] [] h _
  obtain ⟨⟨lk, pa, sp, fi, se, o⟩, a1, ⟨g2, a2, e2⟩, ⟨g3, a3, e3⟩, a4, ⟨g5, a5⟩, hW, aT, ⟨gC, aC⟩, gB, aB⟩ := a
  have o : Mo h c th lk pa L sp fi se := o
  have a1 : oI h 121 270 R := a1
  have e2 : ∀ k j, 0 ≤ k → k < c → 0 ≤ j → j < 270 → g2 (270 * k + j) = S k j := e2
  have e3 : ∀ (q : Nat) j, q < 2 → b q = 1 → 0 ≤ j → j < 270 → g3 (270 * q + j) = G q j := e3
  have a4 : oA 2 h 124 2 b := a4
  have aT : oI h 130 120 T := aT
  have i : inv R := k.1
  have iS : ∀ k, 0 ≤ k → k < c → inv (S k) := k.2.1
  have hc : 0 ≤ c ∧ c ≤ 14 := k.2.2.1
  have iG : ∀ q : Nat, q < 2 → b q = 1 → inv (G q) := k.2.2.2.1
  have hb : ∀ j, 0 ≤ j → j < 2 → b j = 0 ∨ b j = 1 := k.2.2.2.2.1
  have hL : 0 ≤ L ∧ L ≤ 120 := k.2.2.2.2.2.1
  have hT : ∀ j, 0 ≤ j → j < L → 0 ≤ T j ∧ T j ≤ 255 := k.2.2.2.2.2.2
  clear k
  have F : fr (fun x => 120 ≤ x ∧ x ≤ 132) h h := fr_rf
  rcases hy with rfl | rfl
  · refine ax_aload_n f201_0 rfl ?_
    refine ax_iconst f201_1 ?_
    refine ax_putfO f201_2 o rfl rfl rfl rfl (fun hp1 o1 r1 => ?_)
    have o : Mo hp1 _ _ _ _ _ _ _ _ := o1
    have a1 := a1.fr r1 (by omega)
    have a2 := a2.fr r1 (by omega)
    have a3 := a3.fr r1 (by omega)
    have a4 := a4.fr r1 (by omega)
    have a5 := a5.fr r1 (by omega)
    have hW := hW.mv r1 (by omega) (by omega) (by omega) (by omega)
    have aT := aT.fr r1 (by omega)
    have aC := aC.fr r1 (by omega)
    have aB := aB.fr r1 (by omega)
    have F := F.trans (r1.mono fun x e => by omega)
    refine ax_iload_n f201_5 rfl ?_
    refine ax_csI (rest := []) f201_6 (Or.inl rfl) rfl rfl rfl rfl rfl rfl (c_147 hr) ?_
    intro _ e_
    obtain rfl := e_.symm
    clear e_
    refine ax_nmI (b2i_t (show 0 ≤ r0 ∧ r0 ≤ 47 by omega)) ?_
    refine ax_if_ne f201_9 rfl ⟨by omega, by omega⟩ (fun q9 => ?_) (fun q9 => absurd q9 (by omega))
    refine ax_aload_n f201_18 rfl ?_
    refine ax_cvV (rest := []) f201_19 o rfl rfl rfl rfl rfl rfl rfl rfl (c_148 o a1 a2 hc e2) ?_
    rintro h7 ⟨o7, a17, ⟨g7, a27, e27⟩, f7⟩
    have e2 := e27
    have o : Mo h7 _ _ _ _ _ _ _ _ := o7
    have a1 := a17
    have a2 := a27
    have a3 := a3.fr f7 (by omega)
    have a4 := a4.fr f7 (by omega)
    have a5 := a5.fr f7 (by omega)
    have hW := hW.mv f7 (by omega) (by omega) (by omega) (by omega)
    have aT := aT.fr f7 (by omega)
    have aC := aC.fr f7 (by omega)
    have aB := aB.fr f7 (by omega)
    have F := F.trans (f7.mono fun x e => by omega)
    refine ax_aload_n f201_22 rfl ?_
    refine ax_getf f201_23 o rfl ?_
    refine ax_bipush f201_26 ?_
    refine ax_iload_n f201_28 rfl ?_
    refine ax_iadd f201_29 ?_
    refine ax_iload_n f201_30 rfl ?_
    refine ax_if_eq f201_31 rfl ⟨by omega, by omega⟩ (fun q31 => ?_) (fun q31 => absurd q31 (by omega))
    refine ax_iconst f201_38 ?_
    refine ax_iastO f201_39 a1 (by omega) (by omega) rfl (fun hp3 o3 r3 => ?_)
    have o : Mo hp3 _ _ _ _ _ _ _ _ := r3.at (q := 120) (by omega) o
    have a1 := o3
    have a2 := a2.fr r3 (by omega)
    have a3 := a3.fr r3 (by omega)
    have a4 := a4.fr r3 (by omega)
    have a5 := a5.fr r3 (by omega)
    have hW := hW.mv r3 (by omega) (by omega) (by omega) (by omega)
    have aT := aT.fr r3 (by omega)
    have aC := aC.fr r3 (by omega)
    have aB := aB.fr r3 (by omega)
    have F := F.trans (r3.mono fun x e => by omega)
    refine ax_aload_n f201_40 rfl ?_
    refine ax_bipush f201_41 ?_
    refine ax_iconst f201_43 ?_
    refine ax_bipush f201_44 ?_
    refine ax_cvI (rest := []) f201_46 o rfl rfl rfl rfl rfl rfl rfl rfl (c_155 o a1 (by omega) (by omega) (by omega) (by omega)) ?_
    intro _ e_
    obtain rfl := e_.symm
    clear e_
    refine ax_ireturn f201_49 rfl rfl ?_
    exact ⟨rI_of rfl, ⟨⟨_, _, _, _, _, o⟩, a1, ⟨_, a2, e2⟩, ⟨_, a3, e3⟩, a4, ⟨_, a5⟩, hW, aT, ⟨_, aC⟩, ⟨_, aB⟩⟩, F⟩
  · refine ax_aload_n f201_0 rfl ?_
    refine ax_iconst f201_1 ?_
    refine ax_putfO f201_2 o rfl rfl rfl rfl (fun hp1 o1 r1 => ?_)
    have o : Mo hp1 _ _ _ _ _ _ _ _ := o1
    have a1 := a1.fr r1 (by omega)
    have a2 := a2.fr r1 (by omega)
    have a3 := a3.fr r1 (by omega)
    have a4 := a4.fr r1 (by omega)
    have a5 := a5.fr r1 (by omega)
    have hW := hW.mv r1 (by omega) (by omega) (by omega) (by omega)
    have aT := aT.fr r1 (by omega)
    have aC := aC.fr r1 (by omega)
    have aB := aB.fr r1 (by omega)
    have F := F.trans (r1.mono fun x e => by omega)
    refine ax_iload_n f201_5 rfl ?_
    refine ax_csI (rest := []) f201_6 (Or.inl rfl) rfl rfl rfl rfl rfl rfl (c_147 hr) ?_
    intro _ e_
    obtain rfl := e_.symm
    clear e_
    refine ax_nmI (b2i_t (show 0 ≤ r0 ∧ r0 ≤ 47 by omega)) ?_
    refine ax_if_ne f201_9 rfl ⟨by omega, by omega⟩ (fun q9 => ?_) (fun q9 => absurd q9 (by omega))
    refine ax_aload_n f201_18 rfl ?_
    refine ax_cvV (rest := []) f201_19 o rfl rfl rfl rfl rfl rfl rfl rfl (c_148 o a1 a2 hc e2) ?_
    rintro h7 ⟨o7, a17, ⟨g7, a27, e27⟩, f7⟩
    have e2 := e27
    have o : Mo h7 _ _ _ _ _ _ _ _ := o7
    have a1 := a17
    have a2 := a27
    have a3 := a3.fr f7 (by omega)
    have a4 := a4.fr f7 (by omega)
    have a5 := a5.fr f7 (by omega)
    have hW := hW.mv f7 (by omega) (by omega) (by omega) (by omega)
    have aT := aT.fr f7 (by omega)
    have aC := aC.fr f7 (by omega)
    have aB := aB.fr f7 (by omega)
    have F := F.trans (f7.mono fun x e => by omega)
    refine ax_aload_n f201_22 rfl ?_
    refine ax_getf f201_23 o rfl ?_
    refine ax_bipush f201_26 ?_
    refine ax_iload_n f201_28 rfl ?_
    refine ax_iadd f201_29 ?_
    refine ax_iload_n f201_30 rfl ?_
    refine ax_if_eq f201_31 rfl ⟨by omega, by omega⟩ (fun q31 => absurd q31 (by omega)) (fun q31 => ?_)
    refine ax_iconst f201_34 ?_
    refine ax_goto f201_35 rfl ?_
    refine ax_iastO f201_39 a1 (by omega) (by omega) rfl (fun hp3 o3 r3 => ?_)
    have o : Mo hp3 _ _ _ _ _ _ _ _ := r3.at (q := 120) (by omega) o
    have a1 := o3
    have a2 := a2.fr r3 (by omega)
    have a3 := a3.fr r3 (by omega)
    have a4 := a4.fr r3 (by omega)
    have a5 := a5.fr r3 (by omega)
    have hW := hW.mv r3 (by omega) (by omega) (by omega) (by omega)
    have aT := aT.fr r3 (by omega)
    have aC := aC.fr r3 (by omega)
    have aB := aB.fr r3 (by omega)
    have F := F.trans (r3.mono fun x e => by omega)
    refine ax_aload_n f201_40 rfl ?_
    refine ax_bipush f201_41 ?_
    refine ax_iconst f201_43 ?_
    refine ax_bipush f201_44 ?_
    refine ax_cvI (rest := []) f201_46 o rfl rfl rfl rfl rfl rfl rfl rfl (c_155 o a1 (by omega) (by omega) (by omega) (by omega)) ?_
    intro _ e_
    obtain rfl := e_.symm
    clear e_
    refine ax_ireturn f201_49 rfl rfl ?_
    exact ⟨rI_of rfl, ⟨⟨_, _, _, _, _, o⟩, a1, ⟨_, a2, e2⟩, ⟨_, a3, e3⟩, a4, ⟨_, a5⟩, hW, aT, ⟨_, aC⟩, ⟨_, aB⟩⟩, F⟩
theorem m_202_1 {h : am_H} {R : Int → Int} {S : Int → Int → Int} {c : Int} {G : Nat → Int → Int} {b : Int → Int} {T : Int → Int} {L th : Int} (a : Mdl h (R, S, c, G, b, T, L) th) (k : okS (R, S, c, G, b, T, L)) {r0 y : Int} (hr : inI r0) (h0 : ¬ (1 ≤ r0 ∧ r0 < 48)) : am_X 3 202 0 (am_ent 202 [.ref 120, .int (iI r0), .int (iI y)]) [] h (Mot h (0) 1 (R, S, c, G, b, T, L)) := by
  show am_X 3 202 0 [.ref 120, .int (iI r0), .int (iI y), am_u] [] h _
  obtain ⟨⟨lk, pa, sp, fi, se, o⟩, a1, ⟨g2, a2, e2⟩, ⟨g3, a3, e3⟩, a4, ⟨g5, a5⟩, hW, aT, ⟨gC, aC⟩, gB, aB⟩ := a
  have o : Mo h c th lk pa L sp fi se := o
  have a1 : oI h 121 270 R := a1
  have e2 : ∀ k j, 0 ≤ k → k < c → 0 ≤ j → j < 270 → g2 (270 * k + j) = S k j := e2
  have e3 : ∀ (q : Nat) j, q < 2 → b q = 1 → 0 ≤ j → j < 270 → g3 (270 * q + j) = G q j := e3
  have a4 : oA 2 h 124 2 b := a4
  have aT : oI h 130 120 T := aT
  have i : inv R := k.1
  have iS : ∀ k, 0 ≤ k → k < c → inv (S k) := k.2.1
  have hc : 0 ≤ c ∧ c ≤ 14 := k.2.2.1
  have iG : ∀ q : Nat, q < 2 → b q = 1 → inv (G q) := k.2.2.2.1
  have hb : ∀ j, 0 ≤ j → j < 2 → b j = 0 ∨ b j = 1 := k.2.2.2.2.1
  have hL : 0 ≤ L ∧ L ≤ 120 := k.2.2.2.2.2.1
  have hT : ∀ j, 0 ≤ j → j < L → 0 ≤ T j ∧ T j ≤ 255 := k.2.2.2.2.2.2
  clear k
  have F : fr (fun x => 120 ≤ x ∧ x ≤ 132) h h := fr_rf
  refine ax_aload_n f202_0 rfl ?_
  refine ax_iconst f202_1 ?_
  refine ax_putfO f202_2 o rfl rfl rfl rfl (fun hp1 o1 r1 => ?_)
  have o : Mo hp1 _ _ _ _ _ _ _ _ := o1
  have a1 := a1.fr r1 (by omega)
  have a2 := a2.fr r1 (by omega)
  have a3 := a3.fr r1 (by omega)
  have a4 := a4.fr r1 (by omega)
  have a5 := a5.fr r1 (by omega)
  have hW := hW.mv r1 (by omega) (by omega) (by omega) (by omega)
  have aT := aT.fr r1 (by omega)
  have aC := aC.fr r1 (by omega)
  have aB := aB.fr r1 (by omega)
  have F := F.trans (r1.mono fun x e => by omega)
  refine ax_iload_n f202_5 rfl ?_
  refine ax_iconst f202_6 ?_
  refine ax_bipush f202_7 ?_
  refine ax_csI (rest := []) f202_9 (Or.inl rfl) rfl rfl rfl rfl rfl rfl (c_145 hr ⟨by decide, by decide⟩ ⟨by decide, by decide⟩) ?_
  intro _ e_
  obtain rfl := e_.symm
  clear e_
  refine ax_nmI (b2i_f (show ¬ (1 ≤ r0 ∧ r0 ≤ 47) by omega)) ?_
  refine ax_if_ne f202_12 rfl ⟨by omega, by omega⟩ (fun q12 => absurd q12 (by omega)) (fun q12 => ?_)
  refine ax_aload_n f202_15 rfl ?_
  refine ax_iconst f202_16 ?_
  refine ax_cvI (rest := []) f202_17 o rfl rfl rfl rfl rfl rfl rfl rfl (c_144 o) ?_
  rintro h8 ⟨o8, f8⟩
  have o : Mo h8 _ _ _ _ _ _ _ _ := o8
  have a1 := a1.fr f8 (by omega)
  have a2 := a2.fr f8 (by omega)
  have a3 := a3.fr f8 (by omega)
  have a4 := a4.fr f8 (by omega)
  have a5 := a5.fr f8 (by omega)
  have hW := hW.mv f8 (by omega) (by omega) (by omega) (by omega)
  have aT := aT.fr f8 (by omega)
  have aC := aC.fr f8 (by omega)
  have aB := aB.fr f8 (by omega)
  have F := F.trans (f8.mono fun x e => by omega)
  refine ax_ireturn f202_20 rfl rfl ?_
  exact ⟨rI_of rfl, ⟨⟨_, _, _, _, _, o⟩, a1, ⟨_, a2, e2⟩, ⟨_, a3, e3⟩, a4, ⟨_, a5⟩, hW, aT, ⟨_, aC⟩, ⟨_, aB⟩⟩, F⟩
theorem m_202_2 {h : am_H} {R : Int → Int} {S : Int → Int → Int} {c : Int} {G : Nat → Int → Int} {b : Int → Int} {T : Int → Int} {L th : Int} (a : Mdl h (R, S, c, G, b, T, L) th) (k : okS (R, S, c, G, b, T, L)) {r0 y : Int} (hr : inI r0) (hy : y = 0 ∨ y = 1) (h0 : 1 ≤ r0 ∧ r0 < 48) (h1 : ¬ (y = 0 ∨ R (144 + r0) = 1 ∨ blk R ≤ 11)) : am_X 3 202 0 (am_ent 202 [.ref 120, .int (iI r0), .int (iI y)]) [] h (Mot h (0) 2 (R, S, c, G, b, T, L)) := by
  show am_X 3 202 0 [.ref 120, .int (iI r0), .int (iI y), am_u] [] h _
  obtain ⟨⟨lk, pa, sp, fi, se, o⟩, a1, ⟨g2, a2, e2⟩, ⟨g3, a3, e3⟩, a4, ⟨g5, a5⟩, hW, aT, ⟨gC, aC⟩, gB, aB⟩ := a
  have o : Mo h c th lk pa L sp fi se := o
  have a1 : oI h 121 270 R := a1
  have e2 : ∀ k j, 0 ≤ k → k < c → 0 ≤ j → j < 270 → g2 (270 * k + j) = S k j := e2
  have e3 : ∀ (q : Nat) j, q < 2 → b q = 1 → 0 ≤ j → j < 270 → g3 (270 * q + j) = G q j := e3
  have a4 : oA 2 h 124 2 b := a4
  have aT : oI h 130 120 T := aT
  have i : inv R := k.1
  have iS : ∀ k, 0 ≤ k → k < c → inv (S k) := k.2.1
  have hc : 0 ≤ c ∧ c ≤ 14 := k.2.2.1
  have iG : ∀ q : Nat, q < 2 → b q = 1 → inv (G q) := k.2.2.2.1
  have hb : ∀ j, 0 ≤ j → j < 2 → b j = 0 ∨ b j = 1 := k.2.2.2.2.1
  have hL : 0 ≤ L ∧ L ≤ 120 := k.2.2.2.2.2.1
  have hT : ∀ j, 0 ≤ j → j < L → 0 ≤ T j ∧ T j ≤ 255 := k.2.2.2.2.2.2
  clear k
  have F : fr (fun x => 120 ≤ x ∧ x ≤ 132) h h := fr_rf
  refine ax_aload_n f202_0 rfl ?_
  refine ax_iconst f202_1 ?_
  refine ax_putfO f202_2 o rfl rfl rfl rfl (fun hp1 o1 r1 => ?_)
  have o : Mo hp1 _ _ _ _ _ _ _ _ := o1
  have a1 := a1.fr r1 (by omega)
  have a2 := a2.fr r1 (by omega)
  have a3 := a3.fr r1 (by omega)
  have a4 := a4.fr r1 (by omega)
  have a5 := a5.fr r1 (by omega)
  have hW := hW.mv r1 (by omega) (by omega) (by omega) (by omega)
  have aT := aT.fr r1 (by omega)
  have aC := aC.fr r1 (by omega)
  have aB := aB.fr r1 (by omega)
  have F := F.trans (r1.mono fun x e => by omega)
  refine ax_iload_n f202_5 rfl ?_
  refine ax_iconst f202_6 ?_
  refine ax_bipush f202_7 ?_
  refine ax_csI (rest := []) f202_9 (Or.inl rfl) rfl rfl rfl rfl rfl rfl (c_145 hr ⟨by decide, by decide⟩ ⟨by decide, by decide⟩) ?_
  intro _ e_
  obtain rfl := e_.symm
  clear e_
  refine ax_nmI (b2i_t (show 1 ≤ r0 ∧ r0 ≤ 47 by omega)) ?_
  refine ax_if_ne f202_12 rfl ⟨by omega, by omega⟩ (fun q12 => ?_) (fun q12 => absurd q12 (by omega))
  refine ax_aload_n f202_21 rfl ?_
  refine ax_iload_n f202_22 rfl ?_
  refine ax_iload_n f202_23 rfl ?_
  refine ax_cvI (rest := []) f202_24 o rfl rfl rfl rfl rfl rfl rfl rfl (c_161 o a1 i.ff i.b12 (by omega) (by omega) hy) ?_
  intro _ e_
  obtain rfl := e_.symm
  clear e_
  refine ax_nmI (b2i_f h1) ?_
  refine ax_if_ne f202_27 rfl ⟨by omega, by omega⟩ (fun q27 => absurd q27 (by omega)) (fun q27 => ?_)
  refine ax_aload_n f202_30 rfl ?_
  refine ax_iconst f202_31 ?_
  refine ax_cvI (rest := []) f202_32 o rfl rfl rfl rfl rfl rfl rfl rfl (c_144 o) ?_
  rintro h8 ⟨o8, f8⟩
  have o : Mo h8 _ _ _ _ _ _ _ _ := o8
  have a1 := a1.fr f8 (by omega)
  have a2 := a2.fr f8 (by omega)
  have a3 := a3.fr f8 (by omega)
  have a4 := a4.fr f8 (by omega)
  have a5 := a5.fr f8 (by omega)
  have hW := hW.mv f8 (by omega) (by omega) (by omega) (by omega)
  have aT := aT.fr f8 (by omega)
  have aC := aC.fr f8 (by omega)
  have aB := aB.fr f8 (by omega)
  have F := F.trans (f8.mono fun x e => by omega)
  refine ax_ireturn f202_35 rfl rfl ?_
  exact ⟨rI_of rfl, ⟨⟨_, _, _, _, _, o⟩, a1, ⟨_, a2, e2⟩, ⟨_, a3, e3⟩, a4, ⟨_, a5⟩, hW, aT, ⟨_, aC⟩, ⟨_, aB⟩⟩, F⟩
theorem m_202 {h : am_H} {R : Int → Int} {S : Int → Int → Int} {c : Int} {G : Nat → Int → Int} {b : Int → Int} {T : Int → Int} {L th : Int} (a : Mdl h (R, S, c, G, b, T, L) th) (k : okS (R, S, c, G, b, T, L)) {r0 y : Int} (hr : inI r0) (hy : y = 0 ∨ y = 1) (h0 : 1 ≤ r0 ∧ r0 < 48) (h1 : y = 0 ∨ R (144 + r0) = 1 ∨ blk R ≤ 11) : am_X 3 202 0 (am_ent 202 [.ref 120, .int (iI r0), .int (iI y)]) [] h (Mot h (blk (sfe R r0 y)) 0 (sfe R r0 y, rmS S c R, min (c + 1) 14, G, b, T, L)) := by
  show am_X 3 202 0 [.ref 120, .int (iI r0), .int (iI y), am_u] [] h _
  obtain ⟨⟨lk, pa, sp, fi, se, o⟩, a1, ⟨g2, a2, e2⟩, ⟨g3, a3, e3⟩, a4, ⟨g5, a5⟩, hW, aT, ⟨gC, aC⟩, gB, aB⟩ := a
  have o : Mo h c th lk pa L sp fi se := o
  have a1 : oI h 121 270 R := a1
  have e2 : ∀ k j, 0 ≤ k → k < c → 0 ≤ j → j < 270 → g2 (270 * k + j) = S k j := e2
  have e3 : ∀ (q : Nat) j, q < 2 → b q = 1 → 0 ≤ j → j < 270 → g3 (270 * q + j) = G q j := e3
  have a4 : oA 2 h 124 2 b := a4
  have aT : oI h 130 120 T := aT
  have i : inv R := k.1
  have iS : ∀ k, 0 ≤ k → k < c → inv (S k) := k.2.1
  have hc : 0 ≤ c ∧ c ≤ 14 := k.2.2.1
  have iG : ∀ q : Nat, q < 2 → b q = 1 → inv (G q) := k.2.2.2.1
  have hb : ∀ j, 0 ≤ j → j < 2 → b j = 0 ∨ b j = 1 := k.2.2.2.2.1
  have hL : 0 ≤ L ∧ L ≤ 120 := k.2.2.2.2.2.1
  have hT : ∀ j, 0 ≤ j → j < L → 0 ≤ T j ∧ T j ≤ 255 := k.2.2.2.2.2.2
  clear k
  have F : fr (fun x => 120 ≤ x ∧ x ≤ 132) h h := fr_rf
  refine ax_aload_n f202_0 rfl ?_
  refine ax_iconst f202_1 ?_
  refine ax_putfO f202_2 o rfl rfl rfl rfl (fun hp1 o1 r1 => ?_)
  have o : Mo hp1 _ _ _ _ _ _ _ _ := o1
  have a1 := a1.fr r1 (by omega)
  have a2 := a2.fr r1 (by omega)
  have a3 := a3.fr r1 (by omega)
  have a4 := a4.fr r1 (by omega)
  have a5 := a5.fr r1 (by omega)
  have hW := hW.mv r1 (by omega) (by omega) (by omega) (by omega)
  have aT := aT.fr r1 (by omega)
  have aC := aC.fr r1 (by omega)
  have aB := aB.fr r1 (by omega)
  have F := F.trans (r1.mono fun x e => by omega)
  refine ax_iload_n f202_5 rfl ?_
  refine ax_iconst f202_6 ?_
  refine ax_bipush f202_7 ?_
  refine ax_csI (rest := []) f202_9 (Or.inl rfl) rfl rfl rfl rfl rfl rfl (c_145 hr ⟨by decide, by decide⟩ ⟨by decide, by decide⟩) ?_
  intro _ e_
  obtain rfl := e_.symm
  clear e_
  refine ax_nmI (b2i_t (show 1 ≤ r0 ∧ r0 ≤ 47 by omega)) ?_
  refine ax_if_ne f202_12 rfl ⟨by omega, by omega⟩ (fun q12 => ?_) (fun q12 => absurd q12 (by omega))
  refine ax_aload_n f202_21 rfl ?_
  refine ax_iload_n f202_22 rfl ?_
  refine ax_iload_n f202_23 rfl ?_
  refine ax_cvI (rest := []) f202_24 o rfl rfl rfl rfl rfl rfl rfl rfl (c_161 o a1 i.ff i.b12 (by omega) (by omega) hy) ?_
  intro _ e_
  obtain rfl := e_.symm
  clear e_
  refine ax_nmI (b2i_t h1) ?_
  refine ax_if_ne f202_27 rfl ⟨by omega, by omega⟩ (fun q27 => ?_) (fun q27 => absurd q27 (by omega))
  refine ax_aload_n f202_36 rfl ?_
  refine ax_cvV (rest := []) f202_37 o rfl rfl rfl rfl rfl rfl rfl rfl (c_148 o a1 a2 hc e2) ?_
  rintro h7 ⟨o7, a17, ⟨g7, a27, e27⟩, f7⟩
  have e2 := e27
  have o : Mo h7 _ _ _ _ _ _ _ _ := o7
  have a1 := a17
  have a2 := a27
  have a3 := a3.fr f7 (by omega)
  have a4 := a4.fr f7 (by omega)
  have a5 := a5.fr f7 (by omega)
  have hW := hW.mv f7 (by omega) (by omega) (by omega) (by omega)
  have aT := aT.fr f7 (by omega)
  have aC := aC.fr f7 (by omega)
  have aB := aB.fr f7 (by omega)
  have F := F.trans (f7.mono fun x e => by omega)
  refine ax_aload_n f202_40 rfl ?_
  refine ax_iload_n f202_41 rfl ?_
  refine ax_iload_n f202_42 rfl ?_
  refine ax_cvI (rest := []) f202_43 o rfl rfl rfl rfl rfl rfl rfl rfl (c_162 o a1 i.ff i.b12 hr hy) ?_
  rintro h6 ⟨a16, f6⟩
  refine ax_nmI (b2i_t ⟨h0, h1⟩) ?_
  have e6 : aFe R r0 y = sfe R r0 y := if_pos ⟨h0, h1⟩
  rw [e6] at a16
  have o : Mo h6 _ _ _ _ _ _ _ _ := f6.at (q := 120) (by omega) o
  have a1 := a16
  have a2 := a2.fr f6 (by omega)
  have a3 := a3.fr f6 (by omega)
  have a4 := a4.fr f6 (by omega)
  have a5 := a5.fr f6 (by omega)
  have hW := hW.mv f6 (by omega) (by omega) (by omega) (by omega)
  have aT := aT.fr f6 (by omega)
  have aC := aC.fr f6 (by omega)
  have aB := aB.fr f6 (by omega)
  have F := F.trans (f6.mono fun x e => by omega)
  refine ax_istore_n (ls' := [_, _, _, _]) f202_46 (Nat.le_of_ble_eq_true rfl) rfl ?_
  refine ax_iload_n f202_47 rfl ?_
  refine ax_if_eq f202_48 rfl ⟨by omega, by omega⟩ (fun q48 => absurd q48 (by omega)) (fun q48 => ?_)
  refine ax_aload_n f202_51 rfl ?_
  refine ax_cvI (rest := []) f202_52 o rfl rfl rfl rfl rfl rfl rfl rfl (c_151 o a1) ?_
  intro _ e_
  obtain rfl := e_.symm
  clear e_
  refine ax_goto f202_55 rfl ?_
  refine ax_ireturn f202_59 rfl rfl ?_
  exact ⟨rI_of rfl, ⟨⟨_, _, _, _, _, o⟩, a1, ⟨_, a2, e2⟩, ⟨_, a3, e3⟩, a4, ⟨_, a5⟩, hW, aT, ⟨_, aC⟩, ⟨_, aB⟩⟩, F⟩
theorem m_203_1 {h : am_H} {R : Int → Int} {S : Int → Int → Int} {c : Int} {G : Nat → Int → Int} {b : Int → Int} {T : Int → Int} {L th : Int} (a : Mdl h (R, S, c, G, b, T, L) th) (k : okS (R, S, c, G, b, T, L)) {n : Int} (hn : inI n) (h0 : ¬ (1 ≤ n ∧ n ≤ 11)) : am_X 3 203 0 (am_ent 203 [.ref 120, .int (iI n)]) [] h (Mot h (0) 1 (R, S, c, G, b, T, L)) := by
  show am_X 3 203 0 [.ref 120, .int (iI n), am_u] [] h _
  obtain ⟨⟨lk, pa, sp, fi, se, o⟩, a1, ⟨g2, a2, e2⟩, ⟨g3, a3, e3⟩, a4, ⟨g5, a5⟩, hW, aT, ⟨gC, aC⟩, gB, aB⟩ := a
  have o : Mo h c th lk pa L sp fi se := o
  have a1 : oI h 121 270 R := a1
  have e2 : ∀ k j, 0 ≤ k → k < c → 0 ≤ j → j < 270 → g2 (270 * k + j) = S k j := e2
  have e3 : ∀ (q : Nat) j, q < 2 → b q = 1 → 0 ≤ j → j < 270 → g3 (270 * q + j) = G q j := e3
  have a4 : oA 2 h 124 2 b := a4
  have aT : oI h 130 120 T := aT
  have i : inv R := k.1
  have iS : ∀ k, 0 ≤ k → k < c → inv (S k) := k.2.1
  have hc : 0 ≤ c ∧ c ≤ 14 := k.2.2.1
  have iG : ∀ q : Nat, q < 2 → b q = 1 → inv (G q) := k.2.2.2.1
  have hb : ∀ j, 0 ≤ j → j < 2 → b j = 0 ∨ b j = 1 := k.2.2.2.2.1
  have hL : 0 ≤ L ∧ L ≤ 120 := k.2.2.2.2.2.1
  have hT : ∀ j, 0 ≤ j → j < L → 0 ≤ T j ∧ T j ≤ 255 := k.2.2.2.2.2.2
  clear k
  have F : fr (fun x => 120 ≤ x ∧ x ≤ 132) h h := fr_rf
  refine ax_aload_n f203_0 rfl ?_
  refine ax_iconst f203_1 ?_
  refine ax_putfO f203_2 o rfl rfl rfl rfl (fun hp1 o1 r1 => ?_)
  have o : Mo hp1 _ _ _ _ _ _ _ _ := o1
  have a1 := a1.fr r1 (by omega)
  have a2 := a2.fr r1 (by omega)
  have a3 := a3.fr r1 (by omega)
  have a4 := a4.fr r1 (by omega)
  have a5 := a5.fr r1 (by omega)
  have hW := hW.mv r1 (by omega) (by omega) (by omega) (by omega)
  have aT := aT.fr r1 (by omega)
  have aC := aC.fr r1 (by omega)
  have aB := aB.fr r1 (by omega)
  have F := F.trans (r1.mono fun x e => by omega)
  refine ax_iload_n f203_5 rfl ?_
  refine ax_iconst f203_6 ?_
  refine ax_bipush f203_7 ?_
  refine ax_csI (rest := []) f203_9 (Or.inl rfl) rfl rfl rfl rfl rfl rfl (c_145 hn ⟨by decide, by decide⟩ ⟨by decide, by decide⟩) ?_
  intro _ e_
  obtain rfl := e_.symm
  clear e_
  refine ax_nmI (b2i_f h0) ?_
  refine ax_if_ne f203_12 rfl ⟨by omega, by omega⟩ (fun q12 => absurd q12 (by omega)) (fun q12 => ?_)
  refine ax_aload_n f203_15 rfl ?_
  refine ax_iconst f203_16 ?_
  refine ax_cvI (rest := []) f203_17 o rfl rfl rfl rfl rfl rfl rfl rfl (c_144 o) ?_
  rintro h8 ⟨o8, f8⟩
  have o : Mo h8 _ _ _ _ _ _ _ _ := o8
  have a1 := a1.fr f8 (by omega)
  have a2 := a2.fr f8 (by omega)
  have a3 := a3.fr f8 (by omega)
  have a4 := a4.fr f8 (by omega)
  have a5 := a5.fr f8 (by omega)
  have hW := hW.mv f8 (by omega) (by omega) (by omega) (by omega)
  have aT := aT.fr f8 (by omega)
  have aC := aC.fr f8 (by omega)
  have aB := aB.fr f8 (by omega)
  have F := F.trans (f8.mono fun x e => by omega)
  refine ax_ireturn f203_20 rfl rfl ?_
  exact ⟨rI_of rfl, ⟨⟨_, _, _, _, _, o⟩, a1, ⟨_, a2, e2⟩, ⟨_, a3, e3⟩, a4, ⟨_, a5⟩, hW, aT, ⟨_, aC⟩, ⟨_, aB⟩⟩, F⟩
theorem m_203 {h : am_H} {R : Int → Int} {S : Int → Int → Int} {c : Int} {G : Nat → Int → Int} {b : Int → Int} {T : Int → Int} {L th : Int} (a : Mdl h (R, S, c, G, b, T, L) th) (k : okS (R, S, c, G, b, T, L)) {n : Int} (hn : inI n) (h0 : 1 ≤ n ∧ n ≤ 11) : am_X 3 203 0 (am_ent 203 [.ref 120, .int (iI n)]) [] h (Mot h (blk (spr R n)) 0 (spr R n, rmS S c R, min (c + 1) 14, G, b, T, L)) := by
  show am_X 3 203 0 [.ref 120, .int (iI n), am_u] [] h _
  obtain ⟨⟨lk, pa, sp, fi, se, o⟩, a1, ⟨g2, a2, e2⟩, ⟨g3, a3, e3⟩, a4, ⟨g5, a5⟩, hW, aT, ⟨gC, aC⟩, gB, aB⟩ := a
  have o : Mo h c th lk pa L sp fi se := o
  have a1 : oI h 121 270 R := a1
  have e2 : ∀ k j, 0 ≤ k → k < c → 0 ≤ j → j < 270 → g2 (270 * k + j) = S k j := e2
  have e3 : ∀ (q : Nat) j, q < 2 → b q = 1 → 0 ≤ j → j < 270 → g3 (270 * q + j) = G q j := e3
  have a4 : oA 2 h 124 2 b := a4
  have aT : oI h 130 120 T := aT
  have i : inv R := k.1
  have iS : ∀ k, 0 ≤ k → k < c → inv (S k) := k.2.1
  have hc : 0 ≤ c ∧ c ≤ 14 := k.2.2.1
  have iG : ∀ q : Nat, q < 2 → b q = 1 → inv (G q) := k.2.2.2.1
  have hb : ∀ j, 0 ≤ j → j < 2 → b j = 0 ∨ b j = 1 := k.2.2.2.2.1
  have hL : 0 ≤ L ∧ L ≤ 120 := k.2.2.2.2.2.1
  have hT : ∀ j, 0 ≤ j → j < L → 0 ≤ T j ∧ T j ≤ 255 := k.2.2.2.2.2.2
  clear k
  have F : fr (fun x => 120 ≤ x ∧ x ≤ 132) h h := fr_rf
  refine ax_aload_n f203_0 rfl ?_
  refine ax_iconst f203_1 ?_
  refine ax_putfO f203_2 o rfl rfl rfl rfl (fun hp1 o1 r1 => ?_)
  have o : Mo hp1 _ _ _ _ _ _ _ _ := o1
  have a1 := a1.fr r1 (by omega)
  have a2 := a2.fr r1 (by omega)
  have a3 := a3.fr r1 (by omega)
  have a4 := a4.fr r1 (by omega)
  have a5 := a5.fr r1 (by omega)
  have hW := hW.mv r1 (by omega) (by omega) (by omega) (by omega)
  have aT := aT.fr r1 (by omega)
  have aC := aC.fr r1 (by omega)
  have aB := aB.fr r1 (by omega)
  have F := F.trans (r1.mono fun x e => by omega)
  refine ax_iload_n f203_5 rfl ?_
  refine ax_iconst f203_6 ?_
  refine ax_bipush f203_7 ?_
  refine ax_csI (rest := []) f203_9 (Or.inl rfl) rfl rfl rfl rfl rfl rfl (c_145 hn ⟨by decide, by decide⟩ ⟨by decide, by decide⟩) ?_
  intro _ e_
  obtain rfl := e_.symm
  clear e_
  refine ax_nmI (b2i_t h0) ?_
  refine ax_if_ne f203_12 rfl ⟨by omega, by omega⟩ (fun q12 => ?_) (fun q12 => absurd q12 (by omega))
  refine ax_aload_n f203_21 rfl ?_
  refine ax_cvV (rest := []) f203_22 o rfl rfl rfl rfl rfl rfl rfl rfl (c_148 o a1 a2 hc e2) ?_
  rintro h7 ⟨o7, a17, ⟨g7, a27, e27⟩, f7⟩
  have e2 := e27
  have o : Mo h7 _ _ _ _ _ _ _ _ := o7
  have a1 := a17
  have a2 := a27
  have a3 := a3.fr f7 (by omega)
  have a4 := a4.fr f7 (by omega)
  have a5 := a5.fr f7 (by omega)
  have hW := hW.mv f7 (by omega) (by omega) (by omega) (by omega)
  have aT := aT.fr f7 (by omega)
  have aC := aC.fr f7 (by omega)
  have aB := aB.fr f7 (by omega)
  have F := F.trans (f7.mono fun x e => by omega)
  refine ax_aload_n f203_25 rfl ?_
  refine ax_iload_n f203_26 rfl ?_
  refine ax_cvI (rest := []) f203_27 o rfl rfl rfl rfl rfl rfl rfl rfl (c_170 o a1 i hn) ?_
  rintro h6 ⟨a16, f6⟩
  refine ax_nmI (b2i_t h0) ?_
  have e6 : aSp R n = spr R n := if_pos h0
  rw [e6] at a16
  have o : Mo h6 _ _ _ _ _ _ _ _ := f6.at (q := 120) (by omega) o
  have a1 := a16
  have a2 := a2.fr f6 (by omega)
  have a3 := a3.fr f6 (by omega)
  have a4 := a4.fr f6 (by omega)
  have a5 := a5.fr f6 (by omega)
  have hW := hW.mv f6 (by omega) (by omega) (by omega) (by omega)
  have aT := aT.fr f6 (by omega)
  have aC := aC.fr f6 (by omega)
  have aB := aB.fr f6 (by omega)
  have F := F.trans (f6.mono fun x e => by omega)
  refine ax_istore_n (ls' := [_, _, _]) f203_30 (Nat.le_of_ble_eq_true rfl) rfl ?_
  refine ax_iload_n f203_31 rfl ?_
  refine ax_if_eq f203_32 rfl ⟨by omega, by omega⟩ (fun q32 => absurd q32 (by omega)) (fun q32 => ?_)
  refine ax_aload_n f203_35 rfl ?_
  refine ax_cvI (rest := []) f203_36 o rfl rfl rfl rfl rfl rfl rfl rfl (c_151 o a1) ?_
  intro _ e_
  obtain rfl := e_.symm
  clear e_
  refine ax_goto f203_39 rfl ?_
  refine ax_ireturn f203_43 rfl rfl ?_
  exact ⟨rI_of rfl, ⟨⟨_, _, _, _, _, o⟩, a1, ⟨_, a2, e2⟩, ⟨_, a3, e3⟩, a4, ⟨_, a5⟩, hW, aT, ⟨_, aC⟩, ⟨_, aB⟩⟩, F⟩
theorem m_204_1 {h : am_H} {R : Int → Int} {S : Int → Int → Int} {c : Int} {G : Nat → Int → Int} {b : Int → Int} {T : Int → Int} {L th : Int} (a : Mdl h (R, S, c, G, b, T, L) th) (k : okS (R, S, c, G, b, T, L)) {n v : Int} (hn : inI n) (h0 : ¬ (0 ≤ n ∧ n < blk R)) : am_X 2 204 0 (am_ent 204 [.ref 120, .int (iI n), .int (iI v)]) [] h (Mot h (0) 1 (R, S, c, G, b, T, L)) := by
  show am_X 2 204 0 [.ref 120, .int (iI n), .int (iI v), am_u] [] h _
  obtain ⟨⟨lk, pa, sp, fi, se, o⟩, a1, ⟨g2, a2, e2⟩, ⟨g3, a3, e3⟩, a4, ⟨g5, a5⟩, hW, aT, ⟨gC, aC⟩, gB, aB⟩ := a
  have o : Mo h c th lk pa L sp fi se := o
  have a1 : oI h 121 270 R := a1
  have e2 : ∀ k j, 0 ≤ k → k < c → 0 ≤ j → j < 270 → g2 (270 * k + j) = S k j := e2
  have e3 : ∀ (q : Nat) j, q < 2 → b q = 1 → 0 ≤ j → j < 270 → g3 (270 * q + j) = G q j := e3
  have a4 : oA 2 h 124 2 b := a4
  have aT : oI h 130 120 T := aT
  have i : inv R := k.1
  have iS : ∀ k, 0 ≤ k → k < c → inv (S k) := k.2.1
  have hc : 0 ≤ c ∧ c ≤ 14 := k.2.2.1
  have iG : ∀ q : Nat, q < 2 → b q = 1 → inv (G q) := k.2.2.2.1
  have hb : ∀ j, 0 ≤ j → j < 2 → b j = 0 ∨ b j = 1 := k.2.2.2.2.1
  have hL : 0 ≤ L ∧ L ≤ 120 := k.2.2.2.2.2.1
  have hT : ∀ j, 0 ≤ j → j < L → 0 ≤ T j ∧ T j ≤ 255 := k.2.2.2.2.2.2
  clear k
  have F : fr (fun x => 120 ≤ x ∧ x ≤ 132) h h := fr_rf
  refine ax_aload_n f204_0 rfl ?_
  refine ax_iconst f204_1 ?_
  refine ax_putfO f204_2 o rfl rfl rfl rfl (fun hp1 o1 r1 => ?_)
  have o : Mo hp1 _ _ _ _ _ _ _ _ := o1
  have a1 := a1.fr r1 (by omega)
  have a2 := a2.fr r1 (by omega)
  have a3 := a3.fr r1 (by omega)
  have a4 := a4.fr r1 (by omega)
  have a5 := a5.fr r1 (by omega)
  have hW := hW.mv r1 (by omega) (by omega) (by omega) (by omega)
  have aT := aT.fr r1 (by omega)
  have aC := aC.fr r1 (by omega)
  have aB := aB.fr r1 (by omega)
  have F := F.trans (r1.mono fun x e => by omega)
  refine ax_aload_n f204_5 rfl ?_
  refine ax_iload_n f204_6 rfl ?_
  refine ax_cvI (rest := []) f204_7 o rfl rfl rfl rfl rfl rfl rfl rfl (c_152 o a1 i.ff i.b12 hn) ?_
  intro _ e_
  obtain rfl := e_.symm
  clear e_
  refine ax_nmI (b2i_f h0) ?_
  refine ax_if_ne f204_10 rfl ⟨by omega, by omega⟩ (fun q10 => absurd q10 (by omega)) (fun q10 => ?_)
  refine ax_aload_n f204_13 rfl ?_
  refine ax_iconst f204_14 ?_
  refine ax_cvI (rest := []) f204_15 o rfl rfl rfl rfl rfl rfl rfl rfl (c_144 o) ?_
  rintro h8 ⟨o8, f8⟩
  have o : Mo h8 _ _ _ _ _ _ _ _ := o8
  have a1 := a1.fr f8 (by omega)
  have a2 := a2.fr f8 (by omega)
  have a3 := a3.fr f8 (by omega)
  have a4 := a4.fr f8 (by omega)
  have a5 := a5.fr f8 (by omega)
  have hW := hW.mv f8 (by omega) (by omega) (by omega) (by omega)
  have aT := aT.fr f8 (by omega)
  have aC := aC.fr f8 (by omega)
  have aB := aB.fr f8 (by omega)
  have F := F.trans (f8.mono fun x e => by omega)
  refine ax_ireturn f204_18 rfl rfl ?_
  exact ⟨rI_of rfl, ⟨⟨_, _, _, _, _, o⟩, a1, ⟨_, a2, e2⟩, ⟨_, a3, e3⟩, a4, ⟨_, a5⟩, hW, aT, ⟨_, aC⟩, ⟨_, aB⟩⟩, F⟩
theorem m_204_2 {h : am_H} {R : Int → Int} {S : Int → Int → Int} {c : Int} {G : Nat → Int → Int} {b : Int → Int} {T : Int → Int} {L th : Int} (a : Mdl h (R, S, c, G, b, T, L) th) (k : okS (R, S, c, G, b, T, L)) {n v : Int} (hn : inI n) (hv : inI v) (h0 : 0 ≤ n ∧ n < blk R) (h1 : ¬ (-2 ≤ v ∧ v ≤ 2)) : am_X 2 204 0 (am_ent 204 [.ref 120, .int (iI n), .int (iI v)]) [] h (Mot h (0) 2 (R, S, c, G, b, T, L)) := by
  show am_X 2 204 0 [.ref 120, .int (iI n), .int (iI v), am_u] [] h _
  obtain ⟨⟨lk, pa, sp, fi, se, o⟩, a1, ⟨g2, a2, e2⟩, ⟨g3, a3, e3⟩, a4, ⟨g5, a5⟩, hW, aT, ⟨gC, aC⟩, gB, aB⟩ := a
  have o : Mo h c th lk pa L sp fi se := o
  have a1 : oI h 121 270 R := a1
  have e2 : ∀ k j, 0 ≤ k → k < c → 0 ≤ j → j < 270 → g2 (270 * k + j) = S k j := e2
  have e3 : ∀ (q : Nat) j, q < 2 → b q = 1 → 0 ≤ j → j < 270 → g3 (270 * q + j) = G q j := e3
  have a4 : oA 2 h 124 2 b := a4
  have aT : oI h 130 120 T := aT
  have i : inv R := k.1
  have iS : ∀ k, 0 ≤ k → k < c → inv (S k) := k.2.1
  have hc : 0 ≤ c ∧ c ≤ 14 := k.2.2.1
  have iG : ∀ q : Nat, q < 2 → b q = 1 → inv (G q) := k.2.2.2.1
  have hb : ∀ j, 0 ≤ j → j < 2 → b j = 0 ∨ b j = 1 := k.2.2.2.2.1
  have hL : 0 ≤ L ∧ L ≤ 120 := k.2.2.2.2.2.1
  have hT : ∀ j, 0 ≤ j → j < L → 0 ≤ T j ∧ T j ≤ 255 := k.2.2.2.2.2.2
  clear k
  have F : fr (fun x => 120 ≤ x ∧ x ≤ 132) h h := fr_rf
  refine ax_aload_n f204_0 rfl ?_
  refine ax_iconst f204_1 ?_
  refine ax_putfO f204_2 o rfl rfl rfl rfl (fun hp1 o1 r1 => ?_)
  have o : Mo hp1 _ _ _ _ _ _ _ _ := o1
  have a1 := a1.fr r1 (by omega)
  have a2 := a2.fr r1 (by omega)
  have a3 := a3.fr r1 (by omega)
  have a4 := a4.fr r1 (by omega)
  have a5 := a5.fr r1 (by omega)
  have hW := hW.mv r1 (by omega) (by omega) (by omega) (by omega)
  have aT := aT.fr r1 (by omega)
  have aC := aC.fr r1 (by omega)
  have aB := aB.fr r1 (by omega)
  have F := F.trans (r1.mono fun x e => by omega)
  refine ax_aload_n f204_5 rfl ?_
  refine ax_iload_n f204_6 rfl ?_
  refine ax_cvI (rest := []) f204_7 o rfl rfl rfl rfl rfl rfl rfl rfl (c_152 o a1 i.ff i.b12 hn) ?_
  intro _ e_
  obtain rfl := e_.symm
  clear e_
  refine ax_nmI (b2i_t h0) ?_
  refine ax_if_ne f204_10 rfl ⟨by omega, by omega⟩ (fun q10 => ?_) (fun q10 => absurd q10 (by omega))
  refine ax_iload_n f204_19 rfl ?_
  refine ax_bipush f204_20 ?_
  refine ax_iconst f204_22 ?_
  refine ax_csI (rest := []) f204_23 (Or.inl rfl) rfl rfl rfl rfl rfl rfl (c_145 hv ⟨by decide, by decide⟩ ⟨by decide, by decide⟩) ?_
  intro _ e_
  obtain rfl := e_.symm
  clear e_
  refine ax_nmI (b2i_f h1) ?_
  refine ax_if_ne f204_26 rfl ⟨by omega, by omega⟩ (fun q26 => absurd q26 (by omega)) (fun q26 => ?_)
  refine ax_aload_n f204_29 rfl ?_
  refine ax_iconst f204_30 ?_
  refine ax_cvI (rest := []) f204_31 o rfl rfl rfl rfl rfl rfl rfl rfl (c_144 o) ?_
  rintro h8 ⟨o8, f8⟩
  have o : Mo h8 _ _ _ _ _ _ _ _ := o8
  have a1 := a1.fr f8 (by omega)
  have a2 := a2.fr f8 (by omega)
  have a3 := a3.fr f8 (by omega)
  have a4 := a4.fr f8 (by omega)
  have a5 := a5.fr f8 (by omega)
  have hW := hW.mv f8 (by omega) (by omega) (by omega) (by omega)
  have aT := aT.fr f8 (by omega)
  have aC := aC.fr f8 (by omega)
  have aB := aB.fr f8 (by omega)
  have F := F.trans (f8.mono fun x e => by omega)
  refine ax_ireturn f204_34 rfl rfl ?_
  exact ⟨rI_of rfl, ⟨⟨_, _, _, _, _, o⟩, a1, ⟨_, a2, e2⟩, ⟨_, a3, e3⟩, a4, ⟨_, a5⟩, hW, aT, ⟨_, aC⟩, ⟨_, aB⟩⟩, F⟩
theorem m_204 {h : am_H} {R : Int → Int} {S : Int → Int → Int} {c : Int} {G : Nat → Int → Int} {b : Int → Int} {T : Int → Int} {L th : Int} (a : Mdl h (R, S, c, G, b, T, L) th) (k : okS (R, S, c, G, b, T, L)) {n v : Int} (hn : inI n) (hv : inI v) (h0 : 0 ≤ n ∧ n < blk R) (h1 : -2 ≤ v ∧ v ≤ 2) : am_X 2 204 0 (am_ent 204 [.ref 120, .int (iI n), .int (iI v)]) [] h (Mot h (R (205 + n)) 0 (uZ R (205 + n) v, rmS S c R, min (c + 1) 14, G, b, T, L)) := by
  show am_X 2 204 0 [.ref 120, .int (iI n), .int (iI v), am_u] [] h _
  obtain ⟨⟨lk, pa, sp, fi, se, o⟩, a1, ⟨g2, a2, e2⟩, ⟨g3, a3, e3⟩, a4, ⟨g5, a5⟩, hW, aT, ⟨gC, aC⟩, gB, aB⟩ := a
  have o : Mo h c th lk pa L sp fi se := o
  have a1 : oI h 121 270 R := a1
  have e2 : ∀ k j, 0 ≤ k → k < c → 0 ≤ j → j < 270 → g2 (270 * k + j) = S k j := e2
  have e3 : ∀ (q : Nat) j, q < 2 → b q = 1 → 0 ≤ j → j < 270 → g3 (270 * q + j) = G q j := e3
  have a4 : oA 2 h 124 2 b := a4
  have aT : oI h 130 120 T := aT
  have i : inv R := k.1
  have iS : ∀ k, 0 ≤ k → k < c → inv (S k) := k.2.1
  have hc : 0 ≤ c ∧ c ≤ 14 := k.2.2.1
  have iG : ∀ q : Nat, q < 2 → b q = 1 → inv (G q) := k.2.2.2.1
  have hb : ∀ j, 0 ≤ j → j < 2 → b j = 0 ∨ b j = 1 := k.2.2.2.2.1
  have hL : 0 ≤ L ∧ L ≤ 120 := k.2.2.2.2.2.1
  have hT : ∀ j, 0 ≤ j → j < L → 0 ≤ T j ∧ T j ≤ 255 := k.2.2.2.2.2.2
  clear k
  have F : fr (fun x => 120 ≤ x ∧ x ≤ 132) h h := fr_rf
  have hb12 := i.b12
  refine ax_aload_n f204_0 rfl ?_
  refine ax_iconst f204_1 ?_
  refine ax_putfO f204_2 o rfl rfl rfl rfl (fun hp1 o1 r1 => ?_)
  have o : Mo hp1 _ _ _ _ _ _ _ _ := o1
  have a1 := a1.fr r1 (by omega)
  have a2 := a2.fr r1 (by omega)
  have a3 := a3.fr r1 (by omega)
  have a4 := a4.fr r1 (by omega)
  have a5 := a5.fr r1 (by omega)
  have hW := hW.mv r1 (by omega) (by omega) (by omega) (by omega)
  have aT := aT.fr r1 (by omega)
  have aC := aC.fr r1 (by omega)
  have aB := aB.fr r1 (by omega)
  have F := F.trans (r1.mono fun x e => by omega)
  refine ax_aload_n f204_5 rfl ?_
  refine ax_iload_n f204_6 rfl ?_
  refine ax_cvI (rest := []) f204_7 o rfl rfl rfl rfl rfl rfl rfl rfl (c_152 o a1 i.ff i.b12 hn) ?_
  intro _ e_
  obtain rfl := e_.symm
  clear e_
  refine ax_nmI (b2i_t h0) ?_
  refine ax_if_ne f204_10 rfl ⟨by omega, by omega⟩ (fun q10 => ?_) (fun q10 => absurd q10 (by omega))
  refine ax_iload_n f204_19 rfl ?_
  refine ax_bipush f204_20 ?_
  refine ax_iconst f204_22 ?_
  refine ax_csI (rest := []) f204_23 (Or.inl rfl) rfl rfl rfl rfl rfl rfl (c_145 hv ⟨by decide, by decide⟩ ⟨by decide, by decide⟩) ?_
  intro _ e_
  obtain rfl := e_.symm
  clear e_
  refine ax_nmI (b2i_t h1) ?_
  refine ax_if_ne f204_26 rfl ⟨by omega, by omega⟩ (fun q26 => ?_) (fun q26 => absurd q26 (by omega))
  refine ax_aload_n f204_35 rfl ?_
  refine ax_cvV (rest := []) f204_36 o rfl rfl rfl rfl rfl rfl rfl rfl (c_148 o a1 a2 hc e2) ?_
  rintro h7 ⟨o7, a17, ⟨g7, a27, e27⟩, f7⟩
  have e2 := e27
  have o : Mo h7 _ _ _ _ _ _ _ _ := o7
  have a1 := a17
  have a2 := a27
  have a3 := a3.fr f7 (by omega)
  have a4 := a4.fr f7 (by omega)
  have a5 := a5.fr f7 (by omega)
  have hW := hW.mv f7 (by omega) (by omega) (by omega) (by omega)
  have aT := aT.fr f7 (by omega)
  have aC := aC.fr f7 (by omega)
  have aB := aB.fr f7 (by omega)
  have F := F.trans (f7.mono fun x e => by omega)
  refine ax_aload_n f204_39 rfl ?_
  refine ax_getf f204_40 o rfl ?_
  refine ax_sipush f204_43 ?_
  refine ax_iload_n f204_46 rfl ?_
  refine ax_iadd f204_47 ?_
  refine ax_ialdO f204_48 (by decide) a1 (by omega) (by omega) rfl ?_
  refine ax_istore_n (ls' := [_, _, _, _]) f204_49 (Nat.le_of_ble_eq_true rfl) rfl ?_
  refine ax_aload_n f204_50 rfl ?_
  refine ax_getf f204_51 o rfl ?_
  refine ax_sipush f204_54 ?_
  refine ax_iload_n f204_57 rfl ?_
  refine ax_iadd f204_58 ?_
  refine ax_iload_n f204_59 rfl ?_
  refine ax_iastO f204_60 a1 (by omega) (by omega) rfl (fun hp3 o3 r3 => ?_)
  have o : Mo hp3 _ _ _ _ _ _ _ _ := r3.at (q := 120) (by omega) o
  have a1 := o3
  have a2 := a2.fr r3 (by omega)
  have a3 := a3.fr r3 (by omega)
  have a4 := a4.fr r3 (by omega)
  have a5 := a5.fr r3 (by omega)
  have hW := hW.mv r3 (by omega) (by omega) (by omega) (by omega)
  have aT := aT.fr r3 (by omega)
  have aC := aC.fr r3 (by omega)
  have aB := aB.fr r3 (by omega)
  have F := F.trans (r3.mono fun x e => by omega)
  refine ax_iload_n f204_61 rfl ?_
  refine ax_ireturn f204_62 rfl rfl ?_
  exact ⟨rI_of rfl, ⟨⟨_, _, _, _, _, o⟩, a1, ⟨_, a2, e2⟩, ⟨_, a3, e3⟩, a4, ⟨_, a5⟩, hW, aT, ⟨_, aC⟩, ⟨_, aB⟩⟩, F⟩
theorem tel_sum {R : Int → Int} (i : inv R) : sm (fun j => tel R (193 + j)) 0 (blk R).toNat = sm (fun j => tel R (193 + j)) 0 12 := by
  have hb := i.b12
  have hb1 := blk_1 i.ff
  rw [show 12 = (blk R).toNat + (12 - (blk R).toNat) by omega, sm_cat]
  have z : sm (fun j => tel R (193 + j)) (0 + ((blk R).toNat : Int)) (12 - (blk R).toNat) = 0 := by
    rw [sm_cong (g := fun _ => 0) fun j j1 j2 => ?_]
    · have l := sm_le (f := fun _ => (0 : Int)) (c := 0) (n := 12 - (blk R).toNat) (a := 0 + ((blk R).toNat : Int)) (fun _ _ _ => Int.le_refl _)
      have g := sm_ge (f := fun _ => (0 : Int)) (c := 0) (n := 12 - (blk R).toNat) (a := 0 + ((blk R).toNat : Int)) (fun _ _ _ => Int.le_refl _)
      omega
    · unfold tel tls
      rw [if_neg (by omega), if_neg (by omega)]
      exact i.s0 (by omega) (by omega)
  rw [z, Int.add_zero]
theorem m_205 {h : am_H} {R : Int → Int} {S : Int → Int → Int} {c : Int} {G : Nat → Int → Int} {b : Int → Int} {T : Int → Int} {L th : Int} (a : Mdl h (R, S, c, G, b, T, L) th) (k : okS (R, S, c, G, b, T, L))  : am_X 3 205 0 (am_ent 205 [.ref 120]) [] h (Mot h (sm (fun j => tel R (193 + j)) 0 12) 0 (tel R, rmS S c R, min (c + 1) 14, G, b, T, L)) := by
  show am_X 3 205 0 [.ref 120] [] h _
  obtain ⟨⟨lk, pa, sp, fi, se, o⟩, a1, ⟨g2, a2, e2⟩, ⟨g3, a3, e3⟩, a4, ⟨g5, a5⟩, hW, aT, ⟨gC, aC⟩, gB, aB⟩ := a
  have o : Mo h c th lk pa L sp fi se := o
  have a1 : oI h 121 270 R := a1
  have e2 : ∀ k j, 0 ≤ k → k < c → 0 ≤ j → j < 270 → g2 (270 * k + j) = S k j := e2
  have e3 : ∀ (q : Nat) j, q < 2 → b q = 1 → 0 ≤ j → j < 270 → g3 (270 * q + j) = G q j := e3
  have a4 : oA 2 h 124 2 b := a4
  have aT : oI h 130 120 T := aT
  have i : inv R := k.1
  have iS : ∀ k, 0 ≤ k → k < c → inv (S k) := k.2.1
  have hc : 0 ≤ c ∧ c ≤ 14 := k.2.2.1
  have iG : ∀ q : Nat, q < 2 → b q = 1 → inv (G q) := k.2.2.2.1
  have hb : ∀ j, 0 ≤ j → j < 2 → b j = 0 ∨ b j = 1 := k.2.2.2.2.1
  have hL : 0 ≤ L ∧ L ≤ 120 := k.2.2.2.2.2.1
  have hT : ∀ j, 0 ≤ j → j < L → 0 ≤ T j ∧ T j ≤ 255 := k.2.2.2.2.2.2
  clear k
  have F : fr (fun x => 120 ≤ x ∧ x ≤ 132) h h := fr_rf
  have hb12 := i.b12
  have hb1 := blk_1 i.ff
  have eb : blk (tel R) = blk R := blk_cong (tls_fe R (blk R) i.b12)
  refine ax_aload_n f205_0 rfl ?_
  refine ax_iconst f205_1 ?_
  refine ax_putfO f205_2 o rfl rfl rfl rfl (fun hp1 o1 r1 => ?_)
  have o : Mo hp1 _ _ _ _ _ _ _ _ := o1
  have a1 := a1.fr r1 (by omega)
  have a2 := a2.fr r1 (by omega)
  have a3 := a3.fr r1 (by omega)
  have a4 := a4.fr r1 (by omega)
  have a5 := a5.fr r1 (by omega)
  have hW := hW.mv r1 (by omega) (by omega) (by omega) (by omega)
  have aT := aT.fr r1 (by omega)
  have aC := aC.fr r1 (by omega)
  have aB := aB.fr r1 (by omega)
  have F := F.trans (r1.mono fun x e => by omega)
  refine ax_aload_n f205_5 rfl ?_
  refine ax_cvV (rest := []) f205_6 o rfl rfl rfl rfl rfl rfl rfl rfl (c_148 o a1 a2 hc e2) ?_
  rintro h7 ⟨o7, a17, ⟨g7, a27, e27⟩, f7⟩
  have e2 := e27
  have o : Mo h7 _ _ _ _ _ _ _ _ := o7
  have a1 := a17
  have a2 := a27
  have a3 := a3.fr f7 (by omega)
  have a4 := a4.fr f7 (by omega)
  have a5 := a5.fr f7 (by omega)
  have hW := hW.mv f7 (by omega) (by omega) (by omega) (by omega)
  have aT := aT.fr f7 (by omega)
  have aC := aC.fr f7 (by omega)
  have aB := aB.fr f7 (by omega)
  have F := F.trans (f7.mono fun x e => by omega)
  refine ax_aload_n f205_9 rfl ?_
  refine ax_cvV (rest := []) f205_10 o rfl rfl rfl rfl rfl rfl rfl rfl (c_164 o a1 i.ff i.1.2.1 i.b12) ?_
  rintro h6 ⟨a16, f6⟩
  have o : Mo h6 _ _ _ _ _ _ _ _ := f6.at (q := 120) (by omega) o
  have a1 := a16
  have a2 := a2.fr f6 (by omega)
  have a3 := a3.fr f6 (by omega)
  have a4 := a4.fr f6 (by omega)
  have a5 := a5.fr f6 (by omega)
  have hW := hW.mv f6 (by omega) (by omega) (by omega) (by omega)
  have aT := aT.fr f6 (by omega)
  have aC := aC.fr f6 (by omega)
  have aB := aB.fr f6 (by omega)
  have F := F.trans (f6.mono fun x e => by omega)
  refine ax_aload_n f205_13 rfl ?_
  refine ax_sipush f205_14 ?_
  refine ax_iconst f205_17 ?_
  refine ax_aload_n f205_18 rfl ?_
  refine ax_cvI (rest := [_, _, _]) f205_19 o rfl rfl rfl rfl rfl rfl rfl rfl (c_151 o a1) ?_
  intro _ e_
  obtain rfl := e_.symm
  clear e_
  rw [eb]
  refine ax_cvI (rest := []) f205_22 o rfl rfl rfl rfl rfl rfl rfl rfl (c_155 o a1 (by omega) (by omega) (by omega) (by omega)) ?_
  intro _ e_
  obtain rfl := e_.symm
  clear e_
  refine ax_ireturn f205_25 rfl rfl ?_
  exact ⟨rI_of (by rw [Int.sub_zero]; exact tel_sum i), ⟨⟨_, _, _, _, _, o⟩, a1, ⟨_, a2, e2⟩, ⟨_, a3, e3⟩, a4, ⟨_, a5⟩, hW, aT, ⟨_, aC⟩, ⟨_, aB⟩⟩, F⟩
theorem m_206_1 {h : am_H} {R : Int → Int} {S : Int → Int → Int} {c : Int} {G : Nat → Int → Int} {b : Int → Int} {T : Int → Int} {L th : Int} (a : Mdl h (R, S, c, G, b, T, L) th) (k : okS (R, S, c, G, b, T, L)) {z : Int} (hz : inI z) (h0 : ¬ (0 ≤ z ∧ z < 3)) : am_X 9 206 0 (am_ent 206 [.ref 120, .int (iI z)]) [] h (Mot h (0) 1 (R, S, c, G, b, T, L)) := by
  show am_X 9 206 0 [.ref 120, .int (iI z), am_u, am_u] [] h _
  obtain ⟨⟨lk, pa, sp, fi, se, o⟩, a1, ⟨g2, a2, e2⟩, ⟨g3, a3, e3⟩, a4, ⟨g5, a5⟩, hW, aT, ⟨gC, aC⟩, gB, aB⟩ := a
  have o : Mo h c th lk pa L sp fi se := o
  have a1 : oI h 121 270 R := a1
  have e2 : ∀ k j, 0 ≤ k → k < c → 0 ≤ j → j < 270 → g2 (270 * k + j) = S k j := e2
  have e3 : ∀ (q : Nat) j, q < 2 → b q = 1 → 0 ≤ j → j < 270 → g3 (270 * q + j) = G q j := e3
  have a4 : oA 2 h 124 2 b := a4
  have aT : oI h 130 120 T := aT
  have i : inv R := k.1
  have iS : ∀ k, 0 ≤ k → k < c → inv (S k) := k.2.1
  have hc : 0 ≤ c ∧ c ≤ 14 := k.2.2.1
  have iG : ∀ q : Nat, q < 2 → b q = 1 → inv (G q) := k.2.2.2.1
  have hb : ∀ j, 0 ≤ j → j < 2 → b j = 0 ∨ b j = 1 := k.2.2.2.2.1
  have hL : 0 ≤ L ∧ L ≤ 120 := k.2.2.2.2.2.1
  have hT : ∀ j, 0 ≤ j → j < L → 0 ≤ T j ∧ T j ≤ 255 := k.2.2.2.2.2.2
  clear k
  have F : fr (fun x => 120 ≤ x ∧ x ≤ 132) h h := fr_rf
  refine ax_aload_n f206_0 rfl ?_
  refine ax_iconst f206_1 ?_
  refine ax_putfO f206_2 o rfl rfl rfl rfl (fun hp1 o1 r1 => ?_)
  have o : Mo hp1 _ _ _ _ _ _ _ _ := o1
  have a1 := a1.fr r1 (by omega)
  have a2 := a2.fr r1 (by omega)
  have a3 := a3.fr r1 (by omega)
  have a4 := a4.fr r1 (by omega)
  have a5 := a5.fr r1 (by omega)
  have hW := hW.mv r1 (by omega) (by omega) (by omega) (by omega)
  have aT := aT.fr r1 (by omega)
  have aC := aC.fr r1 (by omega)
  have aB := aB.fr r1 (by omega)
  have F := F.trans (r1.mono fun x e => by omega)
  refine ax_iload_n f206_5 rfl ?_
  refine ax_iconst f206_6 ?_
  refine ax_iconst f206_7 ?_
  refine ax_csI (rest := []) f206_8 (Or.inl rfl) rfl rfl rfl rfl rfl rfl (c_145 hz ⟨by decide, by decide⟩ ⟨by decide, by decide⟩) ?_
  intro _ e_
  obtain rfl := e_.symm
  clear e_
  refine ax_nmI (b2i_f (show ¬ (0 ≤ z ∧ z ≤ 2) by omega)) ?_
  refine ax_if_ne f206_11 rfl ⟨by omega, by omega⟩ (fun q11 => absurd q11 (by omega)) (fun q11 => ?_)
  refine ax_aload_n f206_14 rfl ?_
  refine ax_iconst f206_15 ?_
  refine ax_cvI (rest := []) f206_16 o rfl rfl rfl rfl rfl rfl rfl rfl (c_144 o) ?_
  rintro h8 ⟨o8, f8⟩
  have o : Mo h8 _ _ _ _ _ _ _ _ := o8
  have a1 := a1.fr f8 (by omega)
  have a2 := a2.fr f8 (by omega)
  have a3 := a3.fr f8 (by omega)
  have a4 := a4.fr f8 (by omega)
  have a5 := a5.fr f8 (by omega)
  have hW := hW.mv f8 (by omega) (by omega) (by omega) (by omega)
  have aT := aT.fr f8 (by omega)
  have aC := aC.fr f8 (by omega)
  have aB := aB.fr f8 (by omega)
  have F := F.trans (f8.mono fun x e => by omega)
  refine ax_ireturn f206_19 rfl rfl ?_
  exact ⟨rI_of rfl, ⟨⟨_, _, _, _, _, o⟩, a1, ⟨_, a2, e2⟩, ⟨_, a3, e3⟩, a4, ⟨_, a5⟩, hW, aT, ⟨_, aC⟩, ⟨_, aB⟩⟩, F⟩
theorem m_206_2 {h : am_H} {R : Int → Int} {S : Int → Int → Int} {c : Int} {G : Nat → Int → Int} {b : Int → Int} {T : Int → Int} {L th : Int} (a : Mdl h (R, S, c, G, b, T, L) th) (k : okS (R, S, c, G, b, T, L)) {z : Int} (hz : inI z) (h0 : 0 ≤ z ∧ z < 3) (h1 : ¬ (R 192 = 1 ∨ R 269 = 0)) : am_X 9 206 0 (am_ent 206 [.ref 120, .int (iI z)]) [] h (Mot h (0) 2 (R, S, c, G, b, T, L)) := by
  show am_X 9 206 0 [.ref 120, .int (iI z), am_u, am_u] [] h _
  obtain ⟨⟨lk, pa, sp, fi, se, o⟩, a1, ⟨g2, a2, e2⟩, ⟨g3, a3, e3⟩, a4, ⟨g5, a5⟩, hW, aT, ⟨gC, aC⟩, gB, aB⟩ := a
  have o : Mo h c th lk pa L sp fi se := o
  have a1 : oI h 121 270 R := a1
  have e2 : ∀ k j, 0 ≤ k → k < c → 0 ≤ j → j < 270 → g2 (270 * k + j) = S k j := e2
  have e3 : ∀ (q : Nat) j, q < 2 → b q = 1 → 0 ≤ j → j < 270 → g3 (270 * q + j) = G q j := e3
  have a4 : oA 2 h 124 2 b := a4
  have aT : oI h 130 120 T := aT
  have i : inv R := k.1
  have iS : ∀ k, 0 ≤ k → k < c → inv (S k) := k.2.1
  have hc : 0 ≤ c ∧ c ≤ 14 := k.2.2.1
  have iG : ∀ q : Nat, q < 2 → b q = 1 → inv (G q) := k.2.2.2.1
  have hb : ∀ j, 0 ≤ j → j < 2 → b j = 0 ∨ b j = 1 := k.2.2.2.2.1
  have hL : 0 ≤ L ∧ L ≤ 120 := k.2.2.2.2.2.1
  have hT : ∀ j, 0 ≤ j → j < L → 0 ≤ T j ∧ T j ≤ 255 := k.2.2.2.2.2.2
  clear k
  have F : fr (fun x => 120 ≤ x ∧ x ≤ 132) h h := fr_rf
  refine ax_aload_n f206_0 rfl ?_
  refine ax_iconst f206_1 ?_
  refine ax_putfO f206_2 o rfl rfl rfl rfl (fun hp1 o1 r1 => ?_)
  have o : Mo hp1 _ _ _ _ _ _ _ _ := o1
  have a1 := a1.fr r1 (by omega)
  have a2 := a2.fr r1 (by omega)
  have a3 := a3.fr r1 (by omega)
  have a4 := a4.fr r1 (by omega)
  have a5 := a5.fr r1 (by omega)
  have hW := hW.mv r1 (by omega) (by omega) (by omega) (by omega)
  have aT := aT.fr r1 (by omega)
  have aC := aC.fr r1 (by omega)
  have aB := aB.fr r1 (by omega)
  have F := F.trans (r1.mono fun x e => by omega)
  refine ax_iload_n f206_5 rfl ?_
  refine ax_iconst f206_6 ?_
  refine ax_iconst f206_7 ?_
  refine ax_csI (rest := []) f206_8 (Or.inl rfl) rfl rfl rfl rfl rfl rfl (c_145 hz ⟨by decide, by decide⟩ ⟨by decide, by decide⟩) ?_
  intro _ e_
  obtain rfl := e_.symm
  clear e_
  refine ax_nmI (b2i_t (show 0 ≤ z ∧ z ≤ 2 by omega)) ?_
  refine ax_if_ne f206_11 rfl ⟨by omega, by omega⟩ (fun q11 => ?_) (fun q11 => absurd q11 (by omega))
  refine ax_aload_n f206_20 rfl ?_
  refine ax_cvI (rest := []) f206_21 o rfl rfl rfl rfl rfl rfl rfl rfl (c_171 o a1 i.td i.tr) ?_
  intro _ e_
  obtain rfl := e_.symm
  clear e_
  refine ax_nmI (b2i_f h1) ?_
  refine ax_if_ne f206_24 rfl ⟨by omega, by omega⟩ (fun q24 => absurd q24 (by omega)) (fun q24 => ?_)
  refine ax_aload_n f206_27 rfl ?_
  refine ax_iconst f206_28 ?_
  refine ax_cvI (rest := []) f206_29 o rfl rfl rfl rfl rfl rfl rfl rfl (c_144 o) ?_
  rintro h8 ⟨o8, f8⟩
  have o : Mo h8 _ _ _ _ _ _ _ _ := o8
  have a1 := a1.fr f8 (by omega)
  have a2 := a2.fr f8 (by omega)
  have a3 := a3.fr f8 (by omega)
  have a4 := a4.fr f8 (by omega)
  have a5 := a5.fr f8 (by omega)
  have hW := hW.mv f8 (by omega) (by omega) (by omega) (by omega)
  have aT := aT.fr f8 (by omega)
  have aC := aC.fr f8 (by omega)
  have aB := aB.fr f8 (by omega)
  have F := F.trans (f8.mono fun x e => by omega)
  refine ax_ireturn f206_32 rfl rfl ?_
  exact ⟨rI_of rfl, ⟨⟨_, _, _, _, _, o⟩, a1, ⟨_, a2, e2⟩, ⟨_, a3, e3⟩, a4, ⟨_, a5⟩, hW, aT, ⟨_, aC⟩, ⟨_, aB⟩⟩, F⟩
theorem m_206 {h : am_H} {R : Int → Int} {S : Int → Int → Int} {c : Int} {G : Nat → Int → Int} {b : Int → Int} {T : Int → Int} {L th : Int} (a : Mdl h (R, S, c, G, b, T, L) th) (k : okS (R, S, c, G, b, T, L)) {z : Int} (hz : inI z) (h0 : 0 ≤ z ∧ z < 3) (h1 : R 192 = 1 ∨ R 269 = 0) : am_X 9 206 0 (am_ent 206 [.ref 120, .int (iI z)]) [] h (Mot h ((sek R z).1) 0 (skd R z, rmS S c R, min (c + 1) 14, G, b, T, L)) := by
  show am_X 9 206 0 [.ref 120, .int (iI z), am_u, am_u] [] h _
  obtain ⟨⟨lk, pa, sp, fi, se, o⟩, a1, ⟨g2, a2, e2⟩, ⟨g3, a3, e3⟩, a4, ⟨g5, a5⟩, hW, aT, ⟨gC, aC⟩, gB, aB⟩ := a
  have o : Mo h c th lk pa L sp fi se := o
  have a1 : oI h 121 270 R := a1
  have e2 : ∀ k j, 0 ≤ k → k < c → 0 ≤ j → j < 270 → g2 (270 * k + j) = S k j := e2
  have e3 : ∀ (q : Nat) j, q < 2 → b q = 1 → 0 ≤ j → j < 270 → g3 (270 * q + j) = G q j := e3
  have a4 : oA 2 h 124 2 b := a4
  have aT : oI h 130 120 T := aT
  have i : inv R := k.1
  have iS : ∀ k, 0 ≤ k → k < c → inv (S k) := k.2.1
  have hc : 0 ≤ c ∧ c ≤ 14 := k.2.2.1
  have iG : ∀ q : Nat, q < 2 → b q = 1 → inv (G q) := k.2.2.2.1
  have hb : ∀ j, 0 ≤ j → j < 2 → b j = 0 ∨ b j = 1 := k.2.2.2.2.1
  have hL : 0 ≤ L ∧ L ≤ 120 := k.2.2.2.2.2.1
  have hT : ∀ j, 0 ≤ j → j < L → 0 ≤ T j ∧ T j ≤ 255 := k.2.2.2.2.2.2
  clear k
  have F : fr (fun x => 120 ≤ x ∧ x ≤ 132) h h := fr_rf
  refine ax_aload_n f206_0 rfl ?_
  refine ax_iconst f206_1 ?_
  refine ax_putfO f206_2 o rfl rfl rfl rfl (fun hp1 o1 r1 => ?_)
  have o : Mo hp1 _ _ _ _ _ _ _ _ := o1
  have a1 := a1.fr r1 (by omega)
  have a2 := a2.fr r1 (by omega)
  have a3 := a3.fr r1 (by omega)
  have a4 := a4.fr r1 (by omega)
  have a5 := a5.fr r1 (by omega)
  have hW := hW.mv r1 (by omega) (by omega) (by omega) (by omega)
  have aT := aT.fr r1 (by omega)
  have aC := aC.fr r1 (by omega)
  have aB := aB.fr r1 (by omega)
  have F := F.trans (r1.mono fun x e => by omega)
  refine ax_iload_n f206_5 rfl ?_
  refine ax_iconst f206_6 ?_
  refine ax_iconst f206_7 ?_
  refine ax_csI (rest := []) f206_8 (Or.inl rfl) rfl rfl rfl rfl rfl rfl (c_145 hz ⟨by decide, by decide⟩ ⟨by decide, by decide⟩) ?_
  intro _ e_
  obtain rfl := e_.symm
  clear e_
  refine ax_nmI (b2i_t (show 0 ≤ z ∧ z ≤ 2 by omega)) ?_
  refine ax_if_ne f206_11 rfl ⟨by omega, by omega⟩ (fun q11 => ?_) (fun q11 => absurd q11 (by omega))
  refine ax_aload_n f206_20 rfl ?_
  refine ax_cvI (rest := []) f206_21 o rfl rfl rfl rfl rfl rfl rfl rfl (c_171 o a1 i.td i.tr) ?_
  intro _ e_
  obtain rfl := e_.symm
  clear e_
  refine ax_nmI (b2i_t h1) ?_
  refine ax_if_ne f206_24 rfl ⟨by omega, by omega⟩ (fun q24 => ?_) (fun q24 => absurd q24 (by omega))
  refine ax_aload_n f206_33 rfl ?_
  refine ax_cvV (rest := []) f206_34 o rfl rfl rfl rfl rfl rfl rfl rfl (c_148 o a1 a2 hc e2) ?_
  rintro h7 ⟨o7, a17, ⟨g7, a27, e27⟩, f7⟩
  have e2 := e27
  have o : Mo h7 _ _ _ _ _ _ _ _ := o7
  have a1 := a17
  have a2 := a27
  have a3 := a3.fr f7 (by omega)
  have a4 := a4.fr f7 (by omega)
  have a5 := a5.fr f7 (by omega)
  have hW := hW.mv f7 (by omega) (by omega) (by omega) (by omega)
  have aT := aT.fr f7 (by omega)
  have aC := aC.fr f7 (by omega)
  have aB := aB.fr f7 (by omega)
  have F := F.trans (f7.mono fun x e => by omega)
  refine ax_aload_n f206_37 rfl ?_
  refine ax_getf f206_38 o rfl ?_
  refine ax_sipush f206_41 ?_
  refine ax_ialdO f206_44 (by decide) a1 (by omega) (by omega) rfl ?_
  refine ax_istore_n (ls' := [_, _, _, _]) f206_45 (Nat.le_of_ble_eq_true rfl) rfl ?_
  refine ax_aload_n f206_46 rfl ?_
  refine ax_iload_n f206_47 rfl ?_
  refine ax_cvI (rest := []) f206_48 o rfl rfl rfl rfl rfl rfl rfl rfl (c_166 o a1 i hz hW) ?_
  rintro h6 ⟨⟨lk6, pa6, o6⟩, a16, hW6, f6⟩
  refine ax_nmI (b2i_t ⟨h0, h1⟩) ?_
  have e6 : aSk R z = skd R z := if_pos ⟨h0, h1⟩
  rw [e6] at a16
  have o : Mo h6 _ _ _ _ _ _ _ _ := o6
  have a1 := a16
  have a2 := a2.fr f6 (by omega)
  have a3 := a3.fr f6 (by omega)
  have a4 := a4.fr f6 (by omega)
  have a5 := a5.fr f6 (by omega)
  have hW := hW6
  have aT := aT.fr f6 (by omega)
  have aC := aC.fr f6 (by omega)
  have aB := aB.fr f6 (by omega)
  have F := F.trans (f6.mono fun x e => by omega)
  refine ax_istore_n (ls' := [_, _, _, _]) f206_51 (Nat.le_of_ble_eq_true rfl) rfl ?_
  refine ax_iload_n f206_52 rfl ?_
  refine ax_if_eq f206_53 rfl ⟨by omega, by omega⟩ (fun q53 => absurd q53 (by omega)) (fun q53 => ?_)
  refine ax_aload_n f206_56 rfl ?_
  refine ax_getf f206_57 o rfl ?_
  refine ax_sipush f206_60 ?_
  refine ax_ialdO f206_63 (by decide) a1 (by omega) (by omega) rfl ?_
  refine ax_iload_n f206_64 rfl ?_
  refine ax_isub f206_65 ?_
  refine ax_goto f206_66 rfl ?_
  refine ax_ireturn f206_70 rfl rfl ?_
  have ez : skd R z 217 = wr (R 217 + (sek R z).1) := by unfold skd nts; rw [if_pos rfl]
  have ev : iI (skd R z 217 - R 217) = iI (sek R z).1 := by
    rw [ez, ← iI_sub, iI_wr, iI_sub]
    congr 1
    omega
  exact ⟨rI_zof ev, ⟨⟨_, _, _, _, _, o⟩, a1, ⟨_, a2, e2⟩, ⟨_, a3, e3⟩, a4, ⟨_, a5⟩, hW, aT, ⟨_, aC⟩, ⟨_, aB⟩⟩, F⟩
theorem m_207_1 {h : am_H} {R : Int → Int} {S : Int → Int → Int} {c : Int} {G : Nat → Int → Int} {b : Int → Int} {T : Int → Int} {L th : Int} (a : Mdl h (R, S, c, G, b, T, L) th) (k : okS (R, S, c, G, b, T, L)) {v : Int} (hv : inI v) (h0 : ¬ (0 ≤ v ∧ v ≤ 1)) : am_X 2 207 0 (am_ent 207 [.ref 120, .int (iI v)]) [] h (Mot h (0) 1 (R, S, c, G, b, T, L)) := by
  show am_X 2 207 0 [.ref 120, .int (iI v), am_u] [] h _
  obtain ⟨⟨lk, pa, sp, fi, se, o⟩, a1, ⟨g2, a2, e2⟩, ⟨g3, a3, e3⟩, a4, ⟨g5, a5⟩, hW, aT, ⟨gC, aC⟩, gB, aB⟩ := a
  have o : Mo h c th lk pa L sp fi se := o
  have a1 : oI h 121 270 R := a1
  have e2 : ∀ k j, 0 ≤ k → k < c → 0 ≤ j → j < 270 → g2 (270 * k + j) = S k j := e2
  have e3 : ∀ (q : Nat) j, q < 2 → b q = 1 → 0 ≤ j → j < 270 → g3 (270 * q + j) = G q j := e3
  have a4 : oA 2 h 124 2 b := a4
  have aT : oI h 130 120 T := aT
  have i : inv R := k.1
  have iS : ∀ k, 0 ≤ k → k < c → inv (S k) := k.2.1
  have hc : 0 ≤ c ∧ c ≤ 14 := k.2.2.1
  have iG : ∀ q : Nat, q < 2 → b q = 1 → inv (G q) := k.2.2.2.1
  have hb : ∀ j, 0 ≤ j → j < 2 → b j = 0 ∨ b j = 1 := k.2.2.2.2.1
  have hL : 0 ≤ L ∧ L ≤ 120 := k.2.2.2.2.2.1
  have hT : ∀ j, 0 ≤ j → j < L → 0 ≤ T j ∧ T j ≤ 255 := k.2.2.2.2.2.2
  clear k
  have F : fr (fun x => 120 ≤ x ∧ x ≤ 132) h h := fr_rf
  refine ax_aload_n f207_0 rfl ?_
  refine ax_iconst f207_1 ?_
  refine ax_putfO f207_2 o rfl rfl rfl rfl (fun hp1 o1 r1 => ?_)
  have o : Mo hp1 _ _ _ _ _ _ _ _ := o1
  have a1 := a1.fr r1 (by omega)
  have a2 := a2.fr r1 (by omega)
  have a3 := a3.fr r1 (by omega)
  have a4 := a4.fr r1 (by omega)
  have a5 := a5.fr r1 (by omega)
  have hW := hW.mv r1 (by omega) (by omega) (by omega) (by omega)
  have aT := aT.fr r1 (by omega)
  have aC := aC.fr r1 (by omega)
  have aB := aB.fr r1 (by omega)
  have F := F.trans (r1.mono fun x e => by omega)
  refine ax_iload_n f207_5 rfl ?_
  refine ax_iconst f207_6 ?_
  refine ax_iconst f207_7 ?_
  refine ax_csI (rest := []) f207_8 (Or.inl rfl) rfl rfl rfl rfl rfl rfl (c_145 hv ⟨by decide, by decide⟩ ⟨by decide, by decide⟩) ?_
  intro _ e_
  obtain rfl := e_.symm
  clear e_
  refine ax_nmI (b2i_f h0) ?_
  refine ax_if_ne f207_11 rfl ⟨by omega, by omega⟩ (fun q11 => absurd q11 (by omega)) (fun q11 => ?_)
  refine ax_aload_n f207_14 rfl ?_
  refine ax_iconst f207_15 ?_
  refine ax_cvI (rest := []) f207_16 o rfl rfl rfl rfl rfl rfl rfl rfl (c_144 o) ?_
  rintro h8 ⟨o8, f8⟩
  have o : Mo h8 _ _ _ _ _ _ _ _ := o8
  have a1 := a1.fr f8 (by omega)
  have a2 := a2.fr f8 (by omega)
  have a3 := a3.fr f8 (by omega)
  have a4 := a4.fr f8 (by omega)
  have a5 := a5.fr f8 (by omega)
  have hW := hW.mv f8 (by omega) (by omega) (by omega) (by omega)
  have aT := aT.fr f8 (by omega)
  have aC := aC.fr f8 (by omega)
  have aB := aB.fr f8 (by omega)
  have F := F.trans (f8.mono fun x e => by omega)
  refine ax_ireturn f207_19 rfl rfl ?_
  exact ⟨rI_of rfl, ⟨⟨_, _, _, _, _, o⟩, a1, ⟨_, a2, e2⟩, ⟨_, a3, e3⟩, a4, ⟨_, a5⟩, hW, aT, ⟨_, aC⟩, ⟨_, aB⟩⟩, F⟩
theorem m_207 {h : am_H} {R : Int → Int} {S : Int → Int → Int} {c : Int} {G : Nat → Int → Int} {b : Int → Int} {T : Int → Int} {L th : Int} (a : Mdl h (R, S, c, G, b, T, L) th) (k : okS (R, S, c, G, b, T, L)) {v : Int} (h0 : 0 ≤ v ∧ v ≤ 1) : am_X 2 207 0 (am_ent 207 [.ref 120, .int (iI v)]) [] h (Mot h (R 269) 0 (uZ R 269 v, rmS S c R, min (c + 1) 14, G, b, T, L)) := by
  show am_X 2 207 0 [.ref 120, .int (iI v), am_u] [] h _
  obtain ⟨⟨lk, pa, sp, fi, se, o⟩, a1, ⟨g2, a2, e2⟩, ⟨g3, a3, e3⟩, a4, ⟨g5, a5⟩, hW, aT, ⟨gC, aC⟩, gB, aB⟩ := a
  have o : Mo h c th lk pa L sp fi se := o
  have a1 : oI h 121 270 R := a1
  have e2 : ∀ k j, 0 ≤ k → k < c → 0 ≤ j → j < 270 → g2 (270 * k + j) = S k j := e2
  have e3 : ∀ (q : Nat) j, q < 2 → b q = 1 → 0 ≤ j → j < 270 → g3 (270 * q + j) = G q j := e3
  have a4 : oA 2 h 124 2 b := a4
  have aT : oI h 130 120 T := aT
  have i : inv R := k.1
  have iS : ∀ k, 0 ≤ k → k < c → inv (S k) := k.2.1
  have hc : 0 ≤ c ∧ c ≤ 14 := k.2.2.1
  have iG : ∀ q : Nat, q < 2 → b q = 1 → inv (G q) := k.2.2.2.1
  have hb : ∀ j, 0 ≤ j → j < 2 → b j = 0 ∨ b j = 1 := k.2.2.2.2.1
  have hL : 0 ≤ L ∧ L ≤ 120 := k.2.2.2.2.2.1
  have hT : ∀ j, 0 ≤ j → j < L → 0 ≤ T j ∧ T j ≤ 255 := k.2.2.2.2.2.2
  clear k
  have F : fr (fun x => 120 ≤ x ∧ x ≤ 132) h h := fr_rf
  have hv : inI v := ⟨by omega, by omega⟩
  refine ax_aload_n f207_0 rfl ?_
  refine ax_iconst f207_1 ?_
  refine ax_putfO f207_2 o rfl rfl rfl rfl (fun hp1 o1 r1 => ?_)
  have o : Mo hp1 _ _ _ _ _ _ _ _ := o1
  have a1 := a1.fr r1 (by omega)
  have a2 := a2.fr r1 (by omega)
  have a3 := a3.fr r1 (by omega)
  have a4 := a4.fr r1 (by omega)
  have a5 := a5.fr r1 (by omega)
  have hW := hW.mv r1 (by omega) (by omega) (by omega) (by omega)
  have aT := aT.fr r1 (by omega)
  have aC := aC.fr r1 (by omega)
  have aB := aB.fr r1 (by omega)
  have F := F.trans (r1.mono fun x e => by omega)
  refine ax_iload_n f207_5 rfl ?_
  refine ax_iconst f207_6 ?_
  refine ax_iconst f207_7 ?_
  refine ax_csI (rest := []) f207_8 (Or.inl rfl) rfl rfl rfl rfl rfl rfl (c_145 hv ⟨by decide, by decide⟩ ⟨by decide, by decide⟩) ?_
  intro _ e_
  obtain rfl := e_.symm
  clear e_
  refine ax_nmI (b2i_t h0) ?_
  refine ax_if_ne f207_11 rfl ⟨by omega, by omega⟩ (fun q11 => ?_) (fun q11 => absurd q11 (by omega))
  refine ax_aload_n f207_20 rfl ?_
  refine ax_cvV (rest := []) f207_21 o rfl rfl rfl rfl rfl rfl rfl rfl (c_148 o a1 a2 hc e2) ?_
  rintro h7 ⟨o7, a17, ⟨g7, a27, e27⟩, f7⟩
  have e2 := e27
  have o : Mo h7 _ _ _ _ _ _ _ _ := o7
  have a1 := a17
  have a2 := a27
  have a3 := a3.fr f7 (by omega)
  have a4 := a4.fr f7 (by omega)
  have a5 := a5.fr f7 (by omega)
  have hW := hW.mv f7 (by omega) (by omega) (by omega) (by omega)
  have aT := aT.fr f7 (by omega)
  have aC := aC.fr f7 (by omega)
  have aB := aB.fr f7 (by omega)
  have F := F.trans (f7.mono fun x e => by omega)
  refine ax_aload_n f207_24 rfl ?_
  refine ax_getf f207_25 o rfl ?_
  refine ax_sipush f207_28 ?_
  refine ax_ialdO f207_31 (by decide) a1 (by omega) (by omega) rfl ?_
  refine ax_istore_n (ls' := [_, _, _]) f207_32 (Nat.le_of_ble_eq_true rfl) rfl ?_
  refine ax_aload_n f207_33 rfl ?_
  refine ax_getf f207_34 o rfl ?_
  refine ax_sipush f207_37 ?_
  refine ax_iload_n f207_40 rfl ?_
  refine ax_iastO f207_41 a1 (by omega) (by omega) rfl (fun hp3 o3 r3 => ?_)
  have o : Mo hp3 _ _ _ _ _ _ _ _ := r3.at (q := 120) (by omega) o
  have a1 := o3
  have a2 := a2.fr r3 (by omega)
  have a3 := a3.fr r3 (by omega)
  have a4 := a4.fr r3 (by omega)
  have a5 := a5.fr r3 (by omega)
  have hW := hW.mv r3 (by omega) (by omega) (by omega) (by omega)
  have aT := aT.fr r3 (by omega)
  have aC := aC.fr r3 (by omega)
  have aB := aB.fr r3 (by omega)
  have F := F.trans (r3.mono fun x e => by omega)
  refine ax_iload_n f207_42 rfl ?_
  refine ax_ireturn f207_43 rfl rfl ?_
  exact ⟨rI_of rfl, ⟨⟨_, _, _, _, _, o⟩, a1, ⟨_, a2, e2⟩, ⟨_, a3, e3⟩, a4, ⟨_, a5⟩, hW, aT, ⟨_, aC⟩, ⟨_, aB⟩⟩, F⟩
end MPU
