/-! ===== objects are made: the class, the reference ===== -/
section INJ
theorem c_106 {h : am_H} {S : Int → Int → Int} {T : Int → Int} (hl : h.1.length = 1) (this : h.1[0]? = some (.inr (9, [.null, .null, .null, .null, .null, .null, .null, .null, .null, .null, .null]))) : am_X 3 106 0 (am_ent 106 [.ref 0]) [] h (fun r h' => rV r ∧ Cls h' (beg, S, 0, fun _ => beg, fun _ => 0, T, 0) ∧ gw h h' 0 119 5354) := by
  show am_X 3 106 0 [.ref 0] [] h _
  have Wg : gw h h 0 0 0 := gw.rf
  refine ax_aload_n f106_0 rfl ?_
  refine ax_objinit f106_1 (Nat.le_of_ble_eq_true rfl) ?_
  refine ax_aload_n f106_4 rfl ?_
  refine ax_newO f106_5 rfl hl (fun h1 o1 w1 => ?_)
  have hl : h1.1.length = 2 := by have := w1.2.1; omega
  have this := w1.at (by omega) this
  have Wg := Wg.tr (w1.lo (by omega))
  refine ax_dup f106_8 rfl ?_
  refine ax_ciV (rest := [_, _]) f106_9 (Or.inr rfl) rfl rfl rfl rfl rfl rfl (c_27 hl o1) ?_
  rintro h2 ⟨hA, w2⟩
  have hl : h2.1.length = 10 := by have := w2.2.1; omega
  have this := w2.at (by omega) this
  have Wg := Wg.tr (w2.lo (by omega))
  refine ax_putfO f106_12 this rfl rfl rfl rfl (fun h3 o3 r3 => ?_)
  have hl : h3.1.length = 10 := r3.1.trans hl
  have hA := hA.mv r3 (fun x x1 x2 => by omega)
  have Wg := Wg.tr (gw_fr r3 (by omega))
  have this := o3
  refine ax_aload_n f106_15 rfl ?_
  refine ax_aload_n f106_16 rfl ?_
  refine ax_getf f106_17 this rfl ?_
  refine ax_getf f106_20 hA.1 rfl ?_
  refine ax_putfO f106_23 this rfl rfl rfl rfl (fun h4 o4 r4 => ?_)
  have hl : h4.1.length = 10 := r4.1.trans hl
  have hA := hA.mv r4 (fun x x1 x2 => by omega)
  have Wg := Wg.tr (gw_fr r4 (by omega))
  have this := o4
  refine ax_aload_n f106_26 rfl ?_
  refine ax_newO f106_27 rfl hl (fun h5 o5 w5 => ?_)
  have hl : h5.1.length = 11 := by have := w5.2.1; omega
  have this := w5.at (by omega) this
  have hA := hA.gw w5 (by omega)
  have Wg := Wg.tr (w5.lo (by omega))
  refine ax_dup f106_30 rfl ?_
  refine ax_ciV (rest := [_, _]) f106_31 (Or.inr rfl) rfl rfl rfl rfl rfl rfl (c_27 hl o5) ?_
  rintro h6 ⟨hB, w6⟩
  have hl : h6.1.length = 19 := by have := w6.2.1; omega
  have this := w6.at (by omega) this
  have hA := hA.gw w6 (by omega)
  have Wg := Wg.tr (w6.lo (by omega))
  refine ax_putfO f106_34 this rfl rfl rfl rfl (fun h7 o7 r7 => ?_)
  have hl : h7.1.length = 19 := r7.1.trans hl
  have hA := hA.mv r7 (fun x x1 x2 => by omega)
  have hB := hB.mv r7 (fun x x1 x2 => by omega)
  have Wg := Wg.tr (gw_fr r7 (by omega))
  have this := o7
  refine ax_aload_n f106_37 rfl ?_
  refine ax_aload_n f106_38 rfl ?_
  refine ax_getf f106_39 this rfl ?_
  refine ax_getf f106_42 hB.1 rfl ?_
  refine ax_putfO f106_45 this rfl rfl rfl rfl (fun h8 o8 r8 => ?_)
  have hl : h8.1.length = 19 := r8.1.trans hl
  have hA := hA.mv r8 (fun x x1 x2 => by omega)
  have hB := hB.mv r8 (fun x x1 x2 => by omega)
  have Wg := Wg.tr (gw_fr r8 (by omega))
  have this := o8
  refine ax_aload_n f106_48 rfl ?_
  refine ax_newO f106_49 rfl hl (fun h9 o9 w9 => ?_)
  have hl : h9.1.length = 20 := by have := w9.2.1; omega
  have this := w9.at (by omega) this
  have hA := hA.gw w9 (by omega)
  have hB := hB.gw w9 (by omega)
  have Wg := Wg.tr (w9.lo (by omega))
  refine ax_dup f106_52 rfl ?_
  refine ax_ciV (rest := [_, _]) f106_53 (Or.inl rfl) rfl rfl rfl rfl rfl rfl (c_41 hl o9) ?_
  rintro h10 ⟨mF, w10⟩
  have hl : h10.1.length = 24 := by have := w10.2.1; omega
  have this := w10.at (by omega) this
  have hA := hA.gw w10 (by omega)
  have hB := hB.gw w10 (by omega)
  have Wg := Wg.tr (w10.lo (by omega))
  refine ax_putfO f106_56 this rfl rfl rfl rfl (fun h11 o11 r11 => ?_)
  have hl : h11.1.length = 24 := r11.1.trans hl
  have hA := hA.mv r11 (fun x x1 x2 => by omega)
  have hB := hB.mv r11 (fun x x1 x2 => by omega)
  have mF := mF.fr r11 (fun q q1 q2 => by omega)
  have Wg := Wg.tr (gw_fr r11 (by omega))
  have this := o11
  refine ax_aload_n f106_59 rfl ?_
  refine ax_newO f106_60 rfl hl (fun h12 o12 w12 => ?_)
  have hl : h12.1.length = 25 := by have := w12.2.1; omega
  have this := w12.at (by omega) this
  have hA := hA.gw w12 (by omega)
  have hB := hB.gw w12 (by omega)
  have mF := mF.gw w12 (by omega)
  have Wg := Wg.tr (w12.lo (by omega))
  refine ax_dup f106_63 rfl ?_
  refine ax_ciV (rest := [_, _]) f106_64 (Or.inr rfl) rfl rfl rfl rfl rfl rfl (c_80 hl o12) ?_
  rintro h13 ⟨sA, w13⟩
  have hl : h13.1.length = 27 := by have := w13.2.1; omega
  have this := w13.at (by omega) this
  have hA := hA.gw w13 (by omega)
  have hB := hB.gw w13 (by omega)
  have mF := mF.gw w13 (by omega)
  have Wg := Wg.tr (w13.lo (by omega))
  refine ax_putfO f106_67 this rfl rfl rfl rfl (fun h14 o14 r14 => ?_)
  have hl : h14.1.length = 27 := r14.1.trans hl
  have hA := hA.mv r14 (fun x x1 x2 => by omega)
  have hB := hB.mv r14 (fun x x1 x2 => by omega)
  have mF := mF.fr r14 (fun q q1 q2 => by omega)
  have sA := sA.fr r14 (fun x x1 x2 => by omega)
  have Wg := Wg.tr (gw_fr r14 (by omega))
  have this := o14
  refine ax_aload_n f106_70 rfl ?_
  refine ax_newO f106_71 rfl hl (fun h15 o15 w15 => ?_)
  have hl : h15.1.length = 28 := by have := w15.2.1; omega
  have this := w15.at (by omega) this
  have hA := hA.gw w15 (by omega)
  have hB := hB.gw w15 (by omega)
  have mF := mF.gw w15 (by omega)
  have sA := sA.gw w15 (by omega)
  have Wg := Wg.tr (w15.lo (by omega))
  refine ax_dup f106_74 rfl ?_
  refine ax_ciV (rest := [_, _]) f106_75 (Or.inr rfl) rfl rfl rfl rfl rfl rfl (c_69 hl o15) ?_
  rintro h16 ⟨pA, w16⟩
  have hl : h16.1.length = 31 := by have := w16.2.1; omega
  have this := w16.at (by omega) this
  have hA := hA.gw w16 (by omega)
  have hB := hB.gw w16 (by omega)
  have mF := mF.gw w16 (by omega)
  have sA := sA.gw w16 (by omega)
  have Wg := Wg.tr (w16.lo (by omega))
  refine ax_putfO f106_78 this rfl rfl rfl rfl (fun h17 o17 r17 => ?_)
  have hl : h17.1.length = 31 := r17.1.trans hl
  have hA := hA.mv r17 (fun x x1 x2 => by omega)
  have hB := hB.mv r17 (fun x x1 x2 => by omega)
  have mF := mF.fr r17 (fun q q1 q2 => by omega)
  have sA := sA.fr r17 (fun x x1 x2 => by omega)
  have pA := pA.mv r17 (fun x x1 x2 => by omega)
  have Wg := Wg.tr (gw_fr r17 (by omega))
  have this := o17
  refine ax_aload_n f106_81 rfl ?_
  refine ax_newO f106_82 rfl hl (fun h18 o18 w18 => ?_)
  have hl : h18.1.length = 32 := by have := w18.2.1; omega
  have this := w18.at (by omega) this
  have hA := hA.gw w18 (by omega)
  have hB := hB.gw w18 (by omega)
  have mF := mF.gw w18 (by omega)
  have sA := sA.gw w18 (by omega)
  have pA := pA.gw w18 (by omega)
  have Wg := Wg.tr (w18.lo (by omega))
  refine ax_dup f106_85 rfl ?_
  refine ax_ciV (rest := [_, _]) f106_86 (Or.inr rfl) rfl rfl rfl rfl rfl rfl (c_91 hl o18) ?_
  rintro h19 ⟨uA, w19⟩
  have hl : h19.1.length = 33 := by have := w19.2.1; omega
  have this := w19.at (by omega) this
  have hA := hA.gw w19 (by omega)
  have hB := hB.gw w19 (by omega)
  have mF := mF.gw w19 (by omega)
  have sA := sA.gw w19 (by omega)
  have pA := pA.gw w19 (by omega)
  have Wg := Wg.tr (w19.lo (by omega))
  refine ax_putfO f106_89 this rfl rfl rfl rfl (fun h20 o20 r20 => ?_)
  have hl : h20.1.length = 33 := r20.1.trans hl
  have hA := hA.mv r20 (fun x x1 x2 => by omega)
  have hB := hB.mv r20 (fun x x1 x2 => by omega)
  have mF := mF.fr r20 (fun q q1 q2 => by omega)
  have sA := sA.fr r20 (fun x x1 x2 => by omega)
  have pA := pA.mv r20 (fun x x1 x2 => by omega)
  have uA := uA.mv r20 (by omega) (by omega)
  have Wg := Wg.tr (gw_fr r20 (by omega))
  have this := o20
  refine ax_aload_n f106_92 rfl ?_
  refine ax_newO f106_93 rfl hl (fun h21 o21 w21 => ?_)
  have hl : h21.1.length = 34 := by have := w21.2.1; omega
  have this := w21.at (by omega) this
  have hA := hA.gw w21 (by omega)
  have hB := hB.gw w21 (by omega)
  have mF := mF.gw w21 (by omega)
  have sA := sA.gw w21 (by omega)
  have pA := pA.gw w21 (by omega)
  have uA := uA.gw w21 (by omega)
  have Wg := Wg.tr (w21.lo (by omega))
  refine ax_dup f106_96 rfl ?_
  refine ax_ciV (rest := [_, _]) f106_97 (Or.inl rfl) rfl rfl rfl rfl rfl rfl (c_36 (S := S) hl o21) ?_
  rintro h22 ⟨hi, w22⟩
  have hl : h22.1.length = 105 := by have := w22.2.1; omega
  have this := w22.at (by omega) this
  have hA := hA.gw w22 (by omega)
  have hB := hB.gw w22 (by omega)
  have mF := mF.gw w22 (by omega)
  have sA := sA.gw w22 (by omega)
  have pA := pA.gw w22 (by omega)
  have uA := uA.gw w22 (by omega)
  have Wg := Wg.tr (w22.lo (by omega))
  refine ax_putfO f106_100 this rfl rfl rfl rfl (fun h23 o23 r23 => ?_)
  have hl : h23.1.length = 105 := r23.1.trans hl
  have hA := hA.mv r23 (fun x x1 x2 => by omega)
  have hB := hB.mv r23 (fun x x1 x2 => by omega)
  have mF := mF.fr r23 (fun q q1 q2 => by omega)
  have sA := sA.fr r23 (fun x x1 x2 => by omega)
  have pA := pA.mv r23 (fun x x1 x2 => by omega)
  have uA := uA.mv r23 (by omega) (by omega)
  have hi := hi.mv r23 (fun q hq => by unfold HiS at hq; omega)
  have Wg := Wg.tr (gw_fr r23 (by omega))
  have this := o23
  refine ax_aload_n f106_103 rfl ?_
  refine ax_newO f106_104 rfl hl (fun h24 o24 w24 => ?_)
  have hl : h24.1.length = 106 := by have := w24.2.1; omega
  have this := w24.at (by omega) this
  have hA := hA.gw w24 (by omega)
  have hB := hB.gw w24 (by omega)
  have mF := mF.gw w24 (by omega)
  have sA := sA.gw w24 (by omega)
  have pA := pA.gw w24 (by omega)
  have uA := uA.gw w24 (by omega)
  have hi := hi.gw w24 (by omega)
  have Wg := Wg.tr (w24.lo (by omega))
  refine ax_dup f106_107 rfl ?_
  refine ax_ciV (rest := [_, _]) f106_108 (Or.inl rfl) rfl rfl rfl rfl rfl rfl (c_86 hl o24) ?_
  rintro h25 ⟨sl, w25⟩
  have hl : h25.1.length = 118 := by have := w25.2.1; omega
  have this := w25.at (by omega) this
  have hA := hA.gw w25 (by omega)
  have hB := hB.gw w25 (by omega)
  have mF := mF.gw w25 (by omega)
  have sA := sA.gw w25 (by omega)
  have pA := pA.gw w25 (by omega)
  have uA := uA.gw w25 (by omega)
  have hi := hi.gw w25 (by omega)
  have Wg := Wg.tr (w25.lo (by omega))
  refine ax_putfO f106_111 this rfl rfl rfl rfl (fun h26 o26 r26 => ?_)
  have hl : h26.1.length = 118 := r26.1.trans hl
  have hA := hA.mv r26 (fun x x1 x2 => by omega)
  have hB := hB.mv r26 (fun x x1 x2 => by omega)
  have mF := mF.fr r26 (fun q q1 q2 => by omega)
  have sA := sA.fr r26 (fun x x1 x2 => by omega)
  have pA := pA.mv r26 (fun x x1 x2 => by omega)
  have uA := uA.mv r26 (by omega) (by omega)
  have hi := hi.mv r26 (fun q hq => by unfold HiS at hq; omega)
  have sl := sl.mv r26 (fun q hq => by unfold SlS at hq; omega)
  have Wg := Wg.tr (gw_fr r26 (by omega))
  have this := o26
  refine ax_aload_n f106_114 rfl ?_
  refine ax_newO f106_115 rfl hl (fun h27 o27 w27 => ?_)
  have hl : h27.1.length = 119 := by have := w27.2.1; omega
  have this := w27.at (by omega) this
  have hA := hA.gw w27 (by omega)
  have hB := hB.gw w27 (by omega)
  have mF := mF.gw w27 (by omega)
  have sA := sA.gw w27 (by omega)
  have pA := pA.gw w27 (by omega)
  have uA := uA.gw w27 (by omega)
  have hi := hi.gw w27 (by omega)
  have sl := sl.gw w27 (by omega)
  have Wg := Wg.tr (w27.lo (by omega))
  refine ax_dup f106_118 rfl ?_
  refine ax_ciV (rest := [_, _]) f106_119 (Or.inr rfl) rfl rfl rfl rfl rfl rfl (c_95 (T := T) hl o27) ?_
  rintro h28 ⟨tx, w28⟩
  have hl : h28.1.length = 120 := by have := w28.2.1; omega
  have this := w28.at (by omega) this
  have hA := hA.gw w28 (by omega)
  have hB := hB.gw w28 (by omega)
  have mF := mF.gw w28 (by omega)
  have sA := sA.gw w28 (by omega)
  have pA := pA.gw w28 (by omega)
  have uA := uA.gw w28 (by omega)
  have hi := hi.gw w28 (by omega)
  have sl := sl.gw w28 (by omega)
  have Wg := Wg.tr (w28.lo (by omega))
  refine ax_putfO f106_122 this rfl rfl rfl rfl (fun h29 o29 r29 => ?_)
  have hl : h29.1.length = 120 := r29.1.trans hl
  have hA := hA.mv r29 (fun x x1 x2 => by omega)
  have hB := hB.mv r29 (fun x x1 x2 => by omega)
  have mF := mF.fr r29 (fun q q1 q2 => by omega)
  have sA := sA.fr r29 (fun x x1 x2 => by omega)
  have pA := pA.mv r29 (fun x x1 x2 => by omega)
  have uA := uA.mv r29 (by omega) (by omega)
  have hi := hi.mv r29 (fun q hq => by unfold HiS at hq; omega)
  have sl := sl.mv r29 (fun q hq => by unfold SlS at hq; omega)
  have tx := tx.mv r29 (by omega) (by omega)
  have Wg := Wg.tr (gw_fr r29 (by omega))
  have this := o29
  refine ax_return f106_125 rfl ?_
  exact ⟨rfl, ⟨this, hA, ⟨_, hB⟩, mF, sA, pA, uA, hi, sl, _, _, _, _, tx⟩, Wg.cg rfl rfl⟩
end INJ
