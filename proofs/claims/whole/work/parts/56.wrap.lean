/-! ===== the law's own methods: calls under handlers ===== -/
section WRP
/-- how a call of the law's methods ends: kd, 0 or the number of what was thrown; v, what was answered -/
def Wout (h : am_H) (kd v : Int) (s : St) (r : am_R) (h' : am_H) : Prop := rI r kd ∧ Cls h' s ∧ (∃ g, oL h' 133 1 g ∧ (kd = 0 → g 0 = (iI v).toInt64)) ∧ (∀ q, 120 ≤ q → q ≠ 133 → h'.1[q]? = h.1[q]?) ∧ (h'.1.length = h.1.length ∧ h'.2.2 = h.2.2 ∧ h'.2.1.1 ≤ h.2.1.1 + 1 ∧ h'.2.1.2 ≤ h.2.1.2 + 6)
theorem Cls_mv {h h' : am_H} {s : St} {S' : Nat → Prop} (a : Cls h s) (F : fr S' h h') (hS : ∀ q, q < 120 → ¬ S' q) : Cls h' s := by
  obtain ⟨o, hH, ⟨R2, hH2⟩, hF, hS0, hP, hU, hHi, hSl, pos, le, fi, se, hT⟩ := a
  exact ⟨F.at (hS _ (by omega)) o, hH.mv F (fun x x1 x2 => hS _ (by omega)), ⟨R2, hH2.mv F (fun x x1 x2 => hS _ (by omega))⟩, hF.fr F (fun x x1 x2 => hS _ (by omega)), hS0.fr F (fun x x1 x2 => hS _ (by omega)), hP.mv F (fun x x1 x2 => hS _ (by omega)), hU.mv F (hS _ (by omega)) (hS _ (by omega)), hHi.mv F (fun q hq => hS _ (by unfold HiS at hq; omega)), hSl.mv F (fun q hq => hS _ (by unfold SlS at hq; omega)), pos, le, fi, se, hT.mv F (hS _ (by omega)) (hS _ (by omega))⟩
theorem Wout_ok {h h1 h2 : am_H} {v : Int} {s : St} {r : am_R} {g : Int → Int64} (q : Cout h v s r h1) (o2 : oL h2 133 1 (uZ g 0 (iI v).toInt64)) (r2 : fr (fun y => y = 133) h1 h2) : Wout h 0 v s (.inl (some (.int (iI 0)))) h2 := by
  obtain ⟨q1, q2, q3⟩ := q
  refine ⟨rI_of rfl, Cls_mv q2 r2 (fun q hq => by omega), ⟨_, o2, fun _ => uZ_s⟩, fun q h1 h2 => ?_, r2.1.trans q3.1, ?_, ?_, ?_⟩
  · rw [r2.2.2 q h2, q3.2.2 q (by unfold FC; omega)]
  · rw [r2.2.1, q3.2.1]
  · rw [r2.2.1, q3.2.1]; omega
  · rw [r2.2.1, q3.2.1]; omega
theorem Wout_ex {h h1 : am_H} {E : String} {kd : Int} {s : St} {r : am_R} {g : Int → Int64} (q : Cthr h E s r h1) (ol : oL h 133 1 g) (hk : kd = 1 ∨ kd = 2 ∨ kd = 3) : Wout h kd 0 s (.inl (some (.int (iI kd)))) h1 := by
  obtain ⟨q1, h2, rfl, q2, q3⟩ := q
  have ol2 := ol.fr q3 (by unfold FC; omega)
  refine ⟨rI_of rfl, q2, ⟨g, ol2, fun z => by omega⟩, fun q h1 h2 => q3.2.2 q (by unfold FC; omega), q3.1, ?_, ?_, ?_⟩
  · show h2.2.2 = _
    rw [q3.2.1]
  · show h2.2.1.1 + 1 ≤ _
    rw [q3.2.1]; exact Nat.le_refl _
  · show h2.2.1.2 + 6 ≤ _
    rw [q3.2.1]; exact Nat.le_refl _
theorem w_1 {dc : Nat} {h : am_H} {x0 : Int32} {v : Int} {s : St} {g : Int → Int64} (o : h.1[0]? = some (.inr (9, Cfs))) (ol : oL h 133 1 g) (hy : am_X dc 107 0 (am_ent 107 [.ref 0, .int x0]) [] h (Cout h v s)) (hd : Nat.ble (dc + 1) 60 = true) : am_X 60 1 0 (am_ent 1 [.ref 0, .int x0, .ref 133]) [] h (Wout h 0 v s) := by
  show am_X 60 1 0 [.ref 0, .int x0, .ref 133, am_u] [] h _
  refine ax_aload_n f1_0 rfl ?_
  refine ax_iconst f1_1 ?_
  refine ax_aload_n f1_2 rfl ?_
  refine ax_iload_n f1_3 rfl ?_
  refine ax_trycall f1_4 (Nat.le_of_ble_eq_true rfl) rfl rfl (Nat.le_of_ble_eq_true rfl) (Nat.le_of_ble_eq_true rfl) o rfl (by decide) hy (Nat.le_of_ble_eq_true hd) ?_ ?_
  · intro rv h1 q
    have e := q.1
    obtain rfl : rv = some (.int (iI v)) := Sum.inl.inj e
    have ol1 := ol.fr q.2.2 (by unfold FC; omega)
    refine ax_i2l f1_7 ?_
    refine ax_lastO (z := 0) f1_8 ol1 (by decide) (by decide) rfl (fun h2 o2 r2 => ?_)
    refine ax_goto f1_9 rfl ?_
    refine ax_iconst f1_18 ?_
    refine ax_ireturn f1_19 rfl rfl ?_
    exact Wout_ok q o2 r2
  · intro E h1 q
    exact nomatch q.1
theorem w_1_1 {dc : Nat} {h : am_H} {x0 : Int32} {s : St} {g : Int → Int64} (o : h.1[0]? = some (.inr (9, Cfs))) (ol : oL h 133 1 g) (hy : am_X dc 107 0 (am_ent 107 [.ref 0, .int x0]) [] h (Cthr h IAE s)) (hd : Nat.ble (dc + 1) 60 = true) : am_X 60 1 0 (am_ent 1 [.ref 0, .int x0, .ref 133]) [] h (Wout h 1 0 s) := by
  show am_X 60 1 0 [.ref 0, .int x0, .ref 133, am_u] [] h _
  refine ax_aload_n f1_0 rfl ?_
  refine ax_iconst f1_1 ?_
  refine ax_aload_n f1_2 rfl ?_
  refine ax_iload_n f1_3 rfl ?_
  refine ax_trycall f1_4 (Nat.le_of_ble_eq_true rfl) rfl rfl (Nat.le_of_ble_eq_true rfl) (Nat.le_of_ble_eq_true rfl) o rfl (by decide) hy (Nat.le_of_ble_eq_true hd) ?_ ?_
  · intro rv h1 q
    exact nomatch q.1
  · intro E h1 q
    have e := q.1
    obtain rfl : E = IAE := Sum.inr.inj e
    refine ⟨(13, 3), by decide +kernel, ?_⟩
    refine ax_iconst f1_13 ?_
    refine ax_ireturn f1_14 rfl rfl ?_
    exact Wout_ex q ol (by omega)
theorem w_1_2 {dc : Nat} {h : am_H} {x0 : Int32} {s : St} {g : Int → Int64} (o : h.1[0]? = some (.inr (9, Cfs))) (ol : oL h 133 1 g) (hy : am_X dc 107 0 (am_ent 107 [.ref 0, .int x0]) [] h (Cthr h ISE s)) (hd : Nat.ble (dc + 1) 60 = true) : am_X 60 1 0 (am_ent 1 [.ref 0, .int x0, .ref 133]) [] h (Wout h 2 0 s) := by
  show am_X 60 1 0 [.ref 0, .int x0, .ref 133, am_u] [] h _
  refine ax_aload_n f1_0 rfl ?_
  refine ax_iconst f1_1 ?_
  refine ax_aload_n f1_2 rfl ?_
  refine ax_iload_n f1_3 rfl ?_
  refine ax_trycall f1_4 (Nat.le_of_ble_eq_true rfl) rfl rfl (Nat.le_of_ble_eq_true rfl) (Nat.le_of_ble_eq_true rfl) o rfl (by decide) hy (Nat.le_of_ble_eq_true hd) ?_ ?_
  · intro rv h1 q
    exact nomatch q.1
  · intro E h1 q
    have e := q.1
    obtain rfl : E = ISE := Sum.inr.inj e
    refine ⟨(16, 3), by decide +kernel, ?_⟩
    refine ax_iconst f1_16 ?_
    refine ax_ireturn f1_17 rfl rfl ?_
    exact Wout_ex q ol (by omega)
theorem w_2 {dc : Nat} {h : am_H}  {v : Int} {s : St} {g : Int → Int64} (o : h.1[0]? = some (.inr (9, Cfs))) (ol : oL h 133 1 g) (hy : am_X dc 110 0 (am_ent 110 [.ref 0]) [] h (Cout h v s)) (hd : Nat.ble (dc + 1) 60 = true) : am_X 60 2 0 (am_ent 2 [.ref 0, .ref 133]) [] h (Wout h 0 v s) := by
  show am_X 60 2 0 [.ref 0, .ref 133, am_u] [] h _
  refine ax_aload_n f2_0 rfl ?_
  refine ax_iconst f2_1 ?_
  refine ax_aload_n f2_2 rfl ?_
  refine ax_trycall f2_3 (Nat.le_of_ble_eq_true rfl) rfl rfl (Nat.le_of_ble_eq_true rfl) (Nat.le_of_ble_eq_true rfl) o rfl (by decide) hy (Nat.le_of_ble_eq_true hd) ?_ ?_
  · intro rv h1 q
    have e := q.1
    obtain rfl : rv = some (.int (iI v)) := Sum.inl.inj e
    have ol1 := ol.fr q.2.2 (by unfold FC; omega)
    refine ax_i2l f2_6 ?_
    refine ax_lastO (z := 0) f2_7 ol1 (by decide) (by decide) rfl (fun h2 o2 r2 => ?_)
    refine ax_goto f2_8 rfl ?_
    refine ax_iconst f2_14 ?_
    refine ax_ireturn f2_15 rfl rfl ?_
    exact Wout_ok q o2 r2
  · intro E h1 q
    exact nomatch q.1
theorem w_2_1 {dc : Nat} {h : am_H}  {s : St} {g : Int → Int64} (o : h.1[0]? = some (.inr (9, Cfs))) (ol : oL h 133 1 g) (hy : am_X dc 110 0 (am_ent 110 [.ref 0]) [] h (Cthr h ISE s)) (hd : Nat.ble (dc + 1) 60 = true) : am_X 60 2 0 (am_ent 2 [.ref 0, .ref 133]) [] h (Wout h 1 0 s) := by
  show am_X 60 2 0 [.ref 0, .ref 133, am_u] [] h _
  refine ax_aload_n f2_0 rfl ?_
  refine ax_iconst f2_1 ?_
  refine ax_aload_n f2_2 rfl ?_
  refine ax_trycall f2_3 (Nat.le_of_ble_eq_true rfl) rfl rfl (Nat.le_of_ble_eq_true rfl) (Nat.le_of_ble_eq_true rfl) o rfl (by decide) hy (Nat.le_of_ble_eq_true hd) ?_ ?_
  · intro rv h1 q
    exact nomatch q.1
  · intro E h1 q
    have e := q.1
    obtain rfl : E = ISE := Sum.inr.inj e
    refine ⟨(12, 2), by decide +kernel, ?_⟩
    refine ax_iconst f2_12 ?_
    refine ax_ireturn f2_13 rfl rfl ?_
    exact Wout_ex q ol (by omega)
theorem w_3 {dc : Nat} {h : am_H} {x0 : Int32} {v : Int} {s : St} {g : Int → Int64} (o : h.1[0]? = some (.inr (9, Cfs))) (ol : oL h 133 1 g) (hy : am_X dc 111 0 (am_ent 111 [.ref 0, .int x0]) [] h (Cout h v s)) (hd : Nat.ble (dc + 1) 60 = true) : am_X 60 3 0 (am_ent 3 [.ref 0, .int x0, .ref 133]) [] h (Wout h 0 v s) := by
  show am_X 60 3 0 [.ref 0, .int x0, .ref 133, am_u] [] h _
  refine ax_aload_n f3_0 rfl ?_
  refine ax_iconst f3_1 ?_
  refine ax_aload_n f3_2 rfl ?_
  refine ax_iload_n f3_3 rfl ?_
  refine ax_trycall f3_4 (Nat.le_of_ble_eq_true rfl) rfl rfl (Nat.le_of_ble_eq_true rfl) (Nat.le_of_ble_eq_true rfl) o rfl (by decide) hy (Nat.le_of_ble_eq_true hd) ?_ ?_
  · intro rv h1 q
    have e := q.1
    obtain rfl : rv = some (.int (iI v)) := Sum.inl.inj e
    have ol1 := ol.fr q.2.2 (by unfold FC; omega)
    refine ax_i2l f3_7 ?_
    refine ax_lastO (z := 0) f3_8 ol1 (by decide) (by decide) rfl (fun h2 o2 r2 => ?_)
    refine ax_goto f3_9 rfl ?_
    refine ax_iconst f3_15 ?_
    refine ax_ireturn f3_16 rfl rfl ?_
    exact Wout_ok q o2 r2
  · intro E h1 q
    exact nomatch q.1
theorem w_3_1 {dc : Nat} {h : am_H} {x0 : Int32} {s : St} {g : Int → Int64} (o : h.1[0]? = some (.inr (9, Cfs))) (ol : oL h 133 1 g) (hy : am_X dc 111 0 (am_ent 111 [.ref 0, .int x0]) [] h (Cthr h IAE s)) (hd : Nat.ble (dc + 1) 60 = true) : am_X 60 3 0 (am_ent 3 [.ref 0, .int x0, .ref 133]) [] h (Wout h 1 0 s) := by
  show am_X 60 3 0 [.ref 0, .int x0, .ref 133, am_u] [] h _
  refine ax_aload_n f3_0 rfl ?_
  refine ax_iconst f3_1 ?_
  refine ax_aload_n f3_2 rfl ?_
  refine ax_iload_n f3_3 rfl ?_
  refine ax_trycall f3_4 (Nat.le_of_ble_eq_true rfl) rfl rfl (Nat.le_of_ble_eq_true rfl) (Nat.le_of_ble_eq_true rfl) o rfl (by decide) hy (Nat.le_of_ble_eq_true hd) ?_ ?_
  · intro rv h1 q
    exact nomatch q.1
  · intro E h1 q
    have e := q.1
    obtain rfl : E = IAE := Sum.inr.inj e
    refine ⟨(13, 3), by decide +kernel, ?_⟩
    refine ax_iconst f3_13 ?_
    refine ax_ireturn f3_14 rfl rfl ?_
    exact Wout_ex q ol (by omega)
theorem w_4 {dc : Nat} {h : am_H} {x0 : Int32} {x1 : Int32} {v : Int} {s : St} {g : Int → Int64} (o : h.1[0]? = some (.inr (9, Cfs))) (ol : oL h 133 1 g) (hy : am_X dc 112 0 (am_ent 112 [.ref 0, .int x0, .int x1]) [] h (Cout h v s)) (hd : Nat.ble (dc + 1) 60 = true) : am_X 60 4 0 (am_ent 4 [.ref 0, .int x0, .int x1, .ref 133]) [] h (Wout h 0 v s) := by
  show am_X 60 4 0 [.ref 0, .int x0, .int x1, .ref 133, am_u] [] h _
  refine ax_aload_n f4_0 rfl ?_
  refine ax_iconst f4_1 ?_
  refine ax_aload_n f4_2 rfl ?_
  refine ax_iload_n f4_3 rfl ?_
  refine ax_iload_n f4_4 rfl ?_
  refine ax_trycall f4_5 (Nat.le_of_ble_eq_true rfl) rfl rfl (Nat.le_of_ble_eq_true rfl) (Nat.le_of_ble_eq_true rfl) o rfl (by decide) hy (Nat.le_of_ble_eq_true hd) ?_ ?_
  · intro rv h1 q
    have e := q.1
    obtain rfl : rv = some (.int (iI v)) := Sum.inl.inj e
    have ol1 := ol.fr q.2.2 (by unfold FC; omega)
    refine ax_i2l f4_8 ?_
    refine ax_lastO (z := 0) f4_9 ol1 (by decide) (by decide) rfl (fun h2 o2 r2 => ?_)
    refine ax_goto f4_10 rfl ?_
    refine ax_iconst f4_21 ?_
    refine ax_ireturn f4_22 rfl rfl ?_
    exact Wout_ok q o2 r2
  · intro E h1 q
    exact nomatch q.1
theorem w_4_1 {dc : Nat} {h : am_H} {x0 : Int32} {x1 : Int32} {s : St} {g : Int → Int64} (o : h.1[0]? = some (.inr (9, Cfs))) (ol : oL h 133 1 g) (hy : am_X dc 112 0 (am_ent 112 [.ref 0, .int x0, .int x1]) [] h (Cthr h IOB s)) (hd : Nat.ble (dc + 1) 60 = true) : am_X 60 4 0 (am_ent 4 [.ref 0, .int x0, .int x1, .ref 133]) [] h (Wout h 1 0 s) := by
  show am_X 60 4 0 [.ref 0, .int x0, .int x1, .ref 133, am_u] [] h _
  refine ax_aload_n f4_0 rfl ?_
  refine ax_iconst f4_1 ?_
  refine ax_aload_n f4_2 rfl ?_
  refine ax_iload_n f4_3 rfl ?_
  refine ax_iload_n f4_4 rfl ?_
  refine ax_trycall f4_5 (Nat.le_of_ble_eq_true rfl) rfl rfl (Nat.le_of_ble_eq_true rfl) (Nat.le_of_ble_eq_true rfl) o rfl (by decide) hy (Nat.le_of_ble_eq_true hd) ?_ ?_
  · intro rv h1 q
    exact nomatch q.1
  · intro E h1 q
    have e := q.1
    obtain rfl : E = IOB := Sum.inr.inj e
    refine ⟨(15, 4), by decide +kernel, ?_⟩
    refine ax_iconst f4_15 ?_
    refine ax_ireturn f4_16 rfl rfl ?_
    exact Wout_ex q ol (by omega)
theorem w_4_2 {dc : Nat} {h : am_H} {x0 : Int32} {x1 : Int32} {s : St} {g : Int → Int64} (o : h.1[0]? = some (.inr (9, Cfs))) (ol : oL h 133 1 g) (hy : am_X dc 112 0 (am_ent 112 [.ref 0, .int x0, .int x1]) [] h (Cthr h IAE s)) (hd : Nat.ble (dc + 1) 60 = true) : am_X 60 4 0 (am_ent 4 [.ref 0, .int x0, .int x1, .ref 133]) [] h (Wout h 2 0 s) := by
  show am_X 60 4 0 [.ref 0, .int x0, .int x1, .ref 133, am_u] [] h _
  refine ax_aload_n f4_0 rfl ?_
  refine ax_iconst f4_1 ?_
  refine ax_aload_n f4_2 rfl ?_
  refine ax_iload_n f4_3 rfl ?_
  refine ax_iload_n f4_4 rfl ?_
  refine ax_trycall f4_5 (Nat.le_of_ble_eq_true rfl) rfl rfl (Nat.le_of_ble_eq_true rfl) (Nat.le_of_ble_eq_true rfl) o rfl (by decide) hy (Nat.le_of_ble_eq_true hd) ?_ ?_
  · intro rv h1 q
    exact nomatch q.1
  · intro E h1 q
    have e := q.1
    obtain rfl : E = IAE := Sum.inr.inj e
    refine ⟨(19, 4), by decide +kernel, ?_⟩
    refine ax_iconst f4_19 ?_
    refine ax_ireturn f4_20 rfl rfl ?_
    exact Wout_ex q ol (by omega)
theorem w_5 {dc : Nat} {h : am_H} {x0 : Int32} {x1 : Int32} {v : Int} {s : St} {g : Int → Int64} (o : h.1[0]? = some (.inr (9, Cfs))) (ol : oL h 133 1 g) (hy : am_X dc 113 0 (am_ent 113 [.ref 0, .int x0, .int x1]) [] h (Cout h v s)) (hd : Nat.ble (dc + 1) 60 = true) : am_X 60 5 0 (am_ent 5 [.ref 0, .int x0, .int x1, .ref 133]) [] h (Wout h 0 v s) := by
  show am_X 60 5 0 [.ref 0, .int x0, .int x1, .ref 133, am_u] [] h _
  refine ax_aload_n f5_0 rfl ?_
  refine ax_iconst f5_1 ?_
  refine ax_aload_n f5_2 rfl ?_
  refine ax_iload_n f5_3 rfl ?_
  refine ax_iload_n f5_4 rfl ?_
  refine ax_trycall f5_5 (Nat.le_of_ble_eq_true rfl) rfl rfl (Nat.le_of_ble_eq_true rfl) (Nat.le_of_ble_eq_true rfl) o rfl (by decide) hy (Nat.le_of_ble_eq_true hd) ?_ ?_
  · intro rv h1 q
    have e := q.1
    obtain rfl : rv = some (.int (iI v)) := Sum.inl.inj e
    have ol1 := ol.fr q.2.2 (by unfold FC; omega)
    refine ax_i2l f5_8 ?_
    refine ax_lastO (z := 0) f5_9 ol1 (by decide) (by decide) rfl (fun h2 o2 r2 => ?_)
    refine ax_goto f5_10 rfl ?_
    refine ax_iconst f5_25 ?_
    refine ax_ireturn f5_26 rfl rfl ?_
    exact Wout_ok q o2 r2
  · intro E h1 q
    exact nomatch q.1
theorem w_5_1 {dc : Nat} {h : am_H} {x0 : Int32} {x1 : Int32} {s : St} {g : Int → Int64} (o : h.1[0]? = some (.inr (9, Cfs))) (ol : oL h 133 1 g) (hy : am_X dc 113 0 (am_ent 113 [.ref 0, .int x0, .int x1]) [] h (Cthr h IOB s)) (hd : Nat.ble (dc + 1) 60 = true) : am_X 60 5 0 (am_ent 5 [.ref 0, .int x0, .int x1, .ref 133]) [] h (Wout h 1 0 s) := by
  show am_X 60 5 0 [.ref 0, .int x0, .int x1, .ref 133, am_u] [] h _
  refine ax_aload_n f5_0 rfl ?_
  refine ax_iconst f5_1 ?_
  refine ax_aload_n f5_2 rfl ?_
  refine ax_iload_n f5_3 rfl ?_
  refine ax_iload_n f5_4 rfl ?_
  refine ax_trycall f5_5 (Nat.le_of_ble_eq_true rfl) rfl rfl (Nat.le_of_ble_eq_true rfl) (Nat.le_of_ble_eq_true rfl) o rfl (by decide) hy (Nat.le_of_ble_eq_true hd) ?_ ?_
  · intro rv h1 q
    exact nomatch q.1
  · intro E h1 q
    have e := q.1
    obtain rfl : E = IOB := Sum.inr.inj e
    refine ⟨(15, 4), by decide +kernel, ?_⟩
    refine ax_iconst f5_15 ?_
    refine ax_ireturn f5_16 rfl rfl ?_
    exact Wout_ex q ol (by omega)
theorem w_5_2 {dc : Nat} {h : am_H} {x0 : Int32} {x1 : Int32} {s : St} {g : Int → Int64} (o : h.1[0]? = some (.inr (9, Cfs))) (ol : oL h 133 1 g) (hy : am_X dc 113 0 (am_ent 113 [.ref 0, .int x0, .int x1]) [] h (Cthr h IAE s)) (hd : Nat.ble (dc + 1) 60 = true) : am_X 60 5 0 (am_ent 5 [.ref 0, .int x0, .int x1, .ref 133]) [] h (Wout h 2 0 s) := by
  show am_X 60 5 0 [.ref 0, .int x0, .int x1, .ref 133, am_u] [] h _
  refine ax_aload_n f5_0 rfl ?_
  refine ax_iconst f5_1 ?_
  refine ax_aload_n f5_2 rfl ?_
  refine ax_iload_n f5_3 rfl ?_
  refine ax_iload_n f5_4 rfl ?_
  refine ax_trycall f5_5 (Nat.le_of_ble_eq_true rfl) rfl rfl (Nat.le_of_ble_eq_true rfl) (Nat.le_of_ble_eq_true rfl) o rfl (by decide) hy (Nat.le_of_ble_eq_true hd) ?_ ?_
  · intro rv h1 q
    exact nomatch q.1
  · intro E h1 q
    have e := q.1
    obtain rfl : E = IAE := Sum.inr.inj e
    refine ⟨(19, 4), by decide +kernel, ?_⟩
    refine ax_iconst f5_19 ?_
    refine ax_ireturn f5_20 rfl rfl ?_
    exact Wout_ex q ol (by omega)
theorem w_5_3 {dc : Nat} {h : am_H} {x0 : Int32} {x1 : Int32} {s : St} {g : Int → Int64} (o : h.1[0]? = some (.inr (9, Cfs))) (ol : oL h 133 1 g) (hy : am_X dc 113 0 (am_ent 113 [.ref 0, .int x0, .int x1]) [] h (Cthr h ISE s)) (hd : Nat.ble (dc + 1) 60 = true) : am_X 60 5 0 (am_ent 5 [.ref 0, .int x0, .int x1, .ref 133]) [] h (Wout h 3 0 s) := by
  show am_X 60 5 0 [.ref 0, .int x0, .int x1, .ref 133, am_u] [] h _
  refine ax_aload_n f5_0 rfl ?_
  refine ax_iconst f5_1 ?_
  refine ax_aload_n f5_2 rfl ?_
  refine ax_iload_n f5_3 rfl ?_
  refine ax_iload_n f5_4 rfl ?_
  refine ax_trycall f5_5 (Nat.le_of_ble_eq_true rfl) rfl rfl (Nat.le_of_ble_eq_true rfl) (Nat.le_of_ble_eq_true rfl) o rfl (by decide) hy (Nat.le_of_ble_eq_true hd) ?_ ?_
  · intro rv h1 q
    exact nomatch q.1
  · intro E h1 q
    have e := q.1
    obtain rfl : E = ISE := Sum.inr.inj e
    refine ⟨(23, 4), by decide +kernel, ?_⟩
    refine ax_iconst f5_23 ?_
    refine ax_ireturn f5_24 rfl rfl ?_
    exact Wout_ex q ol (by omega)
theorem w_6 {dc : Nat} {h : am_H} {x0 : Int32} {x1 : Int32} {v : Int} {s : St} {g : Int → Int64} (o : h.1[0]? = some (.inr (9, Cfs))) (ol : oL h 133 1 g) (hy : am_X dc 114 0 (am_ent 114 [.ref 0, .int x0, .int x1]) [] h (Cout h v s)) (hd : Nat.ble (dc + 1) 60 = true) : am_X 60 6 0 (am_ent 6 [.ref 0, .int x0, .int x1, .ref 133]) [] h (Wout h 0 v s) := by
  show am_X 60 6 0 [.ref 0, .int x0, .int x1, .ref 133, am_u] [] h _
  refine ax_aload_n f6_0 rfl ?_
  refine ax_iconst f6_1 ?_
  refine ax_aload_n f6_2 rfl ?_
  refine ax_iload_n f6_3 rfl ?_
  refine ax_iload_n f6_4 rfl ?_
  refine ax_trycall f6_5 (Nat.le_of_ble_eq_true rfl) rfl rfl (Nat.le_of_ble_eq_true rfl) (Nat.le_of_ble_eq_true rfl) o rfl (by decide) hy (Nat.le_of_ble_eq_true hd) ?_ ?_
  · intro rv h1 q
    have e := q.1
    obtain rfl : rv = some (.int (iI v)) := Sum.inl.inj e
    have ol1 := ol.fr q.2.2 (by unfold FC; omega)
    refine ax_i2l f6_8 ?_
    refine ax_lastO (z := 0) f6_9 ol1 (by decide) (by decide) rfl (fun h2 o2 r2 => ?_)
    refine ax_goto f6_10 rfl ?_
    refine ax_iconst f6_21 ?_
    refine ax_ireturn f6_22 rfl rfl ?_
    exact Wout_ok q o2 r2
  · intro E h1 q
    exact nomatch q.1
theorem w_6_1 {dc : Nat} {h : am_H} {x0 : Int32} {x1 : Int32} {s : St} {g : Int → Int64} (o : h.1[0]? = some (.inr (9, Cfs))) (ol : oL h 133 1 g) (hy : am_X dc 114 0 (am_ent 114 [.ref 0, .int x0, .int x1]) [] h (Cthr h IOB s)) (hd : Nat.ble (dc + 1) 60 = true) : am_X 60 6 0 (am_ent 6 [.ref 0, .int x0, .int x1, .ref 133]) [] h (Wout h 1 0 s) := by
  show am_X 60 6 0 [.ref 0, .int x0, .int x1, .ref 133, am_u] [] h _
  refine ax_aload_n f6_0 rfl ?_
  refine ax_iconst f6_1 ?_
  refine ax_aload_n f6_2 rfl ?_
  refine ax_iload_n f6_3 rfl ?_
  refine ax_iload_n f6_4 rfl ?_
  refine ax_trycall f6_5 (Nat.le_of_ble_eq_true rfl) rfl rfl (Nat.le_of_ble_eq_true rfl) (Nat.le_of_ble_eq_true rfl) o rfl (by decide) hy (Nat.le_of_ble_eq_true hd) ?_ ?_
  · intro rv h1 q
    exact nomatch q.1
  · intro E h1 q
    have e := q.1
    obtain rfl : E = IOB := Sum.inr.inj e
    refine ⟨(15, 4), by decide +kernel, ?_⟩
    refine ax_iconst f6_15 ?_
    refine ax_ireturn f6_16 rfl rfl ?_
    exact Wout_ex q ol (by omega)
theorem w_6_2 {dc : Nat} {h : am_H} {x0 : Int32} {x1 : Int32} {s : St} {g : Int → Int64} (o : h.1[0]? = some (.inr (9, Cfs))) (ol : oL h 133 1 g) (hy : am_X dc 114 0 (am_ent 114 [.ref 0, .int x0, .int x1]) [] h (Cthr h IAE s)) (hd : Nat.ble (dc + 1) 60 = true) : am_X 60 6 0 (am_ent 6 [.ref 0, .int x0, .int x1, .ref 133]) [] h (Wout h 2 0 s) := by
  show am_X 60 6 0 [.ref 0, .int x0, .int x1, .ref 133, am_u] [] h _
  refine ax_aload_n f6_0 rfl ?_
  refine ax_iconst f6_1 ?_
  refine ax_aload_n f6_2 rfl ?_
  refine ax_iload_n f6_3 rfl ?_
  refine ax_iload_n f6_4 rfl ?_
  refine ax_trycall f6_5 (Nat.le_of_ble_eq_true rfl) rfl rfl (Nat.le_of_ble_eq_true rfl) (Nat.le_of_ble_eq_true rfl) o rfl (by decide) hy (Nat.le_of_ble_eq_true hd) ?_ ?_
  · intro rv h1 q
    exact nomatch q.1
  · intro E h1 q
    have e := q.1
    obtain rfl : E = IAE := Sum.inr.inj e
    refine ⟨(19, 4), by decide +kernel, ?_⟩
    refine ax_iconst f6_19 ?_
    refine ax_ireturn f6_20 rfl rfl ?_
    exact Wout_ex q ol (by omega)
theorem w_7 {dc : Nat} {h : am_H} {x0 : Int32} {x1 : Int32} {v : Int} {s : St} {g : Int → Int64} (o : h.1[0]? = some (.inr (9, Cfs))) (ol : oL h 133 1 g) (hy : am_X dc 115 0 (am_ent 115 [.ref 0, .int x0, .int x1]) [] h (Cout h v s)) (hd : Nat.ble (dc + 1) 60 = true) : am_X 60 7 0 (am_ent 7 [.ref 0, .int x0, .int x1, .ref 133]) [] h (Wout h 0 v s) := by
  show am_X 60 7 0 [.ref 0, .int x0, .int x1, .ref 133, am_u] [] h _
  refine ax_aload_n f7_0 rfl ?_
  refine ax_iconst f7_1 ?_
  refine ax_aload_n f7_2 rfl ?_
  refine ax_iload_n f7_3 rfl ?_
  refine ax_iload_n f7_4 rfl ?_
  refine ax_trycall f7_5 (Nat.le_of_ble_eq_true rfl) rfl rfl (Nat.le_of_ble_eq_true rfl) (Nat.le_of_ble_eq_true rfl) o rfl (by decide) hy (Nat.le_of_ble_eq_true hd) ?_ ?_
  · intro rv h1 q
    have e := q.1
    obtain rfl : rv = some (.int (iI v)) := Sum.inl.inj e
    have ol1 := ol.fr q.2.2 (by unfold FC; omega)
    refine ax_i2l f7_8 ?_
    refine ax_lastO (z := 0) f7_9 ol1 (by decide) (by decide) rfl (fun h2 o2 r2 => ?_)
    refine ax_goto f7_10 rfl ?_
    refine ax_iconst f7_17 ?_
    refine ax_ireturn f7_18 rfl rfl ?_
    exact Wout_ok q o2 r2
  · intro E h1 q
    exact nomatch q.1
theorem w_7_1 {dc : Nat} {h : am_H} {x0 : Int32} {x1 : Int32} {s : St} {g : Int → Int64} (o : h.1[0]? = some (.inr (9, Cfs))) (ol : oL h 133 1 g) (hy : am_X dc 115 0 (am_ent 115 [.ref 0, .int x0, .int x1]) [] h (Cthr h IOB s)) (hd : Nat.ble (dc + 1) 60 = true) : am_X 60 7 0 (am_ent 7 [.ref 0, .int x0, .int x1, .ref 133]) [] h (Wout h 1 0 s) := by
  show am_X 60 7 0 [.ref 0, .int x0, .int x1, .ref 133, am_u] [] h _
  refine ax_aload_n f7_0 rfl ?_
  refine ax_iconst f7_1 ?_
  refine ax_aload_n f7_2 rfl ?_
  refine ax_iload_n f7_3 rfl ?_
  refine ax_iload_n f7_4 rfl ?_
  refine ax_trycall f7_5 (Nat.le_of_ble_eq_true rfl) rfl rfl (Nat.le_of_ble_eq_true rfl) (Nat.le_of_ble_eq_true rfl) o rfl (by decide) hy (Nat.le_of_ble_eq_true hd) ?_ ?_
  · intro rv h1 q
    exact nomatch q.1
  · intro E h1 q
    have e := q.1
    obtain rfl : E = IOB := Sum.inr.inj e
    refine ⟨(15, 4), by decide +kernel, ?_⟩
    refine ax_iconst f7_15 ?_
    refine ax_ireturn f7_16 rfl rfl ?_
    exact Wout_ex q ol (by omega)
theorem w_8 {dc : Nat} {h : am_H} {x0 : Int32} {x1 : Int32} {v : Int} {s : St} {g : Int → Int64} (o : h.1[0]? = some (.inr (9, Cfs))) (ol : oL h 133 1 g) (hy : am_X dc 116 0 (am_ent 116 [.ref 0, .int x0, .int x1]) [] h (Cout h v s)) (hd : Nat.ble (dc + 1) 60 = true) : am_X 60 8 0 (am_ent 8 [.ref 0, .int x0, .int x1, .ref 133]) [] h (Wout h 0 v s) := by
  show am_X 60 8 0 [.ref 0, .int x0, .int x1, .ref 133, am_u] [] h _
  refine ax_aload_n f8_0 rfl ?_
  refine ax_iconst f8_1 ?_
  refine ax_aload_n f8_2 rfl ?_
  refine ax_iload_n f8_3 rfl ?_
  refine ax_iload_n f8_4 rfl ?_
  refine ax_trycall f8_5 (Nat.le_of_ble_eq_true rfl) rfl rfl (Nat.le_of_ble_eq_true rfl) (Nat.le_of_ble_eq_true rfl) o rfl (by decide) hy (Nat.le_of_ble_eq_true hd) ?_ ?_
  · intro rv h1 q
    have e := q.1
    obtain rfl : rv = some (.int (iI v)) := Sum.inl.inj e
    have ol1 := ol.fr q.2.2 (by unfold FC; omega)
    refine ax_i2l f8_8 ?_
    refine ax_lastO (z := 0) f8_9 ol1 (by decide) (by decide) rfl (fun h2 o2 r2 => ?_)
    refine ax_goto f8_10 rfl ?_
    refine ax_iconst f8_21 ?_
    refine ax_ireturn f8_22 rfl rfl ?_
    exact Wout_ok q o2 r2
  · intro E h1 q
    exact nomatch q.1
theorem w_8_1 {dc : Nat} {h : am_H} {x0 : Int32} {x1 : Int32} {s : St} {g : Int → Int64} (o : h.1[0]? = some (.inr (9, Cfs))) (ol : oL h 133 1 g) (hy : am_X dc 116 0 (am_ent 116 [.ref 0, .int x0, .int x1]) [] h (Cthr h IOB s)) (hd : Nat.ble (dc + 1) 60 = true) : am_X 60 8 0 (am_ent 8 [.ref 0, .int x0, .int x1, .ref 133]) [] h (Wout h 1 0 s) := by
  show am_X 60 8 0 [.ref 0, .int x0, .int x1, .ref 133, am_u] [] h _
  refine ax_aload_n f8_0 rfl ?_
  refine ax_iconst f8_1 ?_
  refine ax_aload_n f8_2 rfl ?_
  refine ax_iload_n f8_3 rfl ?_
  refine ax_iload_n f8_4 rfl ?_
  refine ax_trycall f8_5 (Nat.le_of_ble_eq_true rfl) rfl rfl (Nat.le_of_ble_eq_true rfl) (Nat.le_of_ble_eq_true rfl) o rfl (by decide) hy (Nat.le_of_ble_eq_true hd) ?_ ?_
  · intro rv h1 q
    exact nomatch q.1
  · intro E h1 q
    have e := q.1
    obtain rfl : E = IOB := Sum.inr.inj e
    refine ⟨(15, 4), by decide +kernel, ?_⟩
    refine ax_iconst f8_15 ?_
    refine ax_ireturn f8_16 rfl rfl ?_
    exact Wout_ex q ol (by omega)
theorem w_8_2 {dc : Nat} {h : am_H} {x0 : Int32} {x1 : Int32} {s : St} {g : Int → Int64} (o : h.1[0]? = some (.inr (9, Cfs))) (ol : oL h 133 1 g) (hy : am_X dc 116 0 (am_ent 116 [.ref 0, .int x0, .int x1]) [] h (Cthr h ISE s)) (hd : Nat.ble (dc + 1) 60 = true) : am_X 60 8 0 (am_ent 8 [.ref 0, .int x0, .int x1, .ref 133]) [] h (Wout h 2 0 s) := by
  show am_X 60 8 0 [.ref 0, .int x0, .int x1, .ref 133, am_u] [] h _
  refine ax_aload_n f8_0 rfl ?_
  refine ax_iconst f8_1 ?_
  refine ax_aload_n f8_2 rfl ?_
  refine ax_iload_n f8_3 rfl ?_
  refine ax_iload_n f8_4 rfl ?_
  refine ax_trycall f8_5 (Nat.le_of_ble_eq_true rfl) rfl rfl (Nat.le_of_ble_eq_true rfl) (Nat.le_of_ble_eq_true rfl) o rfl (by decide) hy (Nat.le_of_ble_eq_true hd) ?_ ?_
  · intro rv h1 q
    exact nomatch q.1
  · intro E h1 q
    have e := q.1
    obtain rfl : E = ISE := Sum.inr.inj e
    refine ⟨(19, 4), by decide +kernel, ?_⟩
    refine ax_iconst f8_19 ?_
    refine ax_ireturn f8_20 rfl rfl ?_
    exact Wout_ex q ol (by omega)
theorem w_9 {dc : Nat} {h : am_H} {x0 : Int32} {v : Int} {s : St} {g : Int → Int64} (o : h.1[0]? = some (.inr (9, Cfs))) (ol : oL h 133 1 g) (hy : am_X dc 117 0 (am_ent 117 [.ref 0, .int x0]) [] h (Cout h v s)) (hd : Nat.ble (dc + 1) 60 = true) : am_X 60 9 0 (am_ent 9 [.ref 0, .int x0, .ref 133]) [] h (Wout h 0 v s) := by
  show am_X 60 9 0 [.ref 0, .int x0, .ref 133, am_u] [] h _
  refine ax_aload_n f9_0 rfl ?_
  refine ax_iconst f9_1 ?_
  refine ax_aload_n f9_2 rfl ?_
  refine ax_iload_n f9_3 rfl ?_
  refine ax_trycall f9_4 (Nat.le_of_ble_eq_true rfl) rfl rfl (Nat.le_of_ble_eq_true rfl) (Nat.le_of_ble_eq_true rfl) o rfl (by decide) hy (Nat.le_of_ble_eq_true hd) ?_ ?_
  · intro rv h1 q
    have e := q.1
    obtain rfl : rv = some (.int (iI v)) := Sum.inl.inj e
    have ol1 := ol.fr q.2.2 (by unfold FC; omega)
    refine ax_i2l f9_7 ?_
    refine ax_lastO (z := 0) f9_8 ol1 (by decide) (by decide) rfl (fun h2 o2 r2 => ?_)
    refine ax_goto f9_9 rfl ?_
    refine ax_iconst f9_15 ?_
    refine ax_ireturn f9_16 rfl rfl ?_
    exact Wout_ok q o2 r2
  · intro E h1 q
    exact nomatch q.1
theorem w_9_1 {dc : Nat} {h : am_H} {x0 : Int32} {s : St} {g : Int → Int64} (o : h.1[0]? = some (.inr (9, Cfs))) (ol : oL h 133 1 g) (hy : am_X dc 117 0 (am_ent 117 [.ref 0, .int x0]) [] h (Cthr h IAE s)) (hd : Nat.ble (dc + 1) 60 = true) : am_X 60 9 0 (am_ent 9 [.ref 0, .int x0, .ref 133]) [] h (Wout h 1 0 s) := by
  show am_X 60 9 0 [.ref 0, .int x0, .ref 133, am_u] [] h _
  refine ax_aload_n f9_0 rfl ?_
  refine ax_iconst f9_1 ?_
  refine ax_aload_n f9_2 rfl ?_
  refine ax_iload_n f9_3 rfl ?_
  refine ax_trycall f9_4 (Nat.le_of_ble_eq_true rfl) rfl rfl (Nat.le_of_ble_eq_true rfl) (Nat.le_of_ble_eq_true rfl) o rfl (by decide) hy (Nat.le_of_ble_eq_true hd) ?_ ?_
  · intro rv h1 q
    exact nomatch q.1
  · intro E h1 q
    have e := q.1
    obtain rfl : E = IAE := Sum.inr.inj e
    refine ⟨(13, 3), by decide +kernel, ?_⟩
    refine ax_iconst f9_13 ?_
    refine ax_ireturn f9_14 rfl rfl ?_
    exact Wout_ex q ol (by omega)
theorem w_10 {dc : Nat} {h : am_H} {x0 : Int32} {x1 : Int32} {v : Int} {s : St} {g : Int → Int64} (o : h.1[0]? = some (.inr (9, Cfs))) (ol : oL h 133 1 g) (hy : am_X dc 118 0 (am_ent 118 [.ref 0, .int x0, .int x1]) [] h (Cout h v s)) (hd : Nat.ble (dc + 1) 60 = true) : am_X 60 10 0 (am_ent 10 [.ref 0, .int x0, .int x1, .ref 133]) [] h (Wout h 0 v s) := by
  show am_X 60 10 0 [.ref 0, .int x0, .int x1, .ref 133, am_u] [] h _
  refine ax_aload_n f10_0 rfl ?_
  refine ax_iconst f10_1 ?_
  refine ax_aload_n f10_2 rfl ?_
  refine ax_iload_n f10_3 rfl ?_
  refine ax_iload_n f10_4 rfl ?_
  refine ax_trycall f10_5 (Nat.le_of_ble_eq_true rfl) rfl rfl (Nat.le_of_ble_eq_true rfl) (Nat.le_of_ble_eq_true rfl) o rfl (by decide) hy (Nat.le_of_ble_eq_true hd) ?_ ?_
  · intro rv h1 q
    have e := q.1
    obtain rfl : rv = some (.int (iI v)) := Sum.inl.inj e
    have ol1 := ol.fr q.2.2 (by unfold FC; omega)
    refine ax_i2l f10_8 ?_
    refine ax_lastO (z := 0) f10_9 ol1 (by decide) (by decide) rfl (fun h2 o2 r2 => ?_)
    refine ax_goto f10_10 rfl ?_
    refine ax_iconst f10_21 ?_
    refine ax_ireturn f10_22 rfl rfl ?_
    exact Wout_ok q o2 r2
  · intro E h1 q
    exact nomatch q.1
theorem w_10_1 {dc : Nat} {h : am_H} {x0 : Int32} {x1 : Int32} {s : St} {g : Int → Int64} (o : h.1[0]? = some (.inr (9, Cfs))) (ol : oL h 133 1 g) (hy : am_X dc 118 0 (am_ent 118 [.ref 0, .int x0, .int x1]) [] h (Cthr h IOB s)) (hd : Nat.ble (dc + 1) 60 = true) : am_X 60 10 0 (am_ent 10 [.ref 0, .int x0, .int x1, .ref 133]) [] h (Wout h 1 0 s) := by
  show am_X 60 10 0 [.ref 0, .int x0, .int x1, .ref 133, am_u] [] h _
  refine ax_aload_n f10_0 rfl ?_
  refine ax_iconst f10_1 ?_
  refine ax_aload_n f10_2 rfl ?_
  refine ax_iload_n f10_3 rfl ?_
  refine ax_iload_n f10_4 rfl ?_
  refine ax_trycall f10_5 (Nat.le_of_ble_eq_true rfl) rfl rfl (Nat.le_of_ble_eq_true rfl) (Nat.le_of_ble_eq_true rfl) o rfl (by decide) hy (Nat.le_of_ble_eq_true hd) ?_ ?_
  · intro rv h1 q
    exact nomatch q.1
  · intro E h1 q
    have e := q.1
    obtain rfl : E = IOB := Sum.inr.inj e
    refine ⟨(15, 4), by decide +kernel, ?_⟩
    refine ax_iconst f10_15 ?_
    refine ax_ireturn f10_16 rfl rfl ?_
    exact Wout_ex q ol (by omega)
theorem w_10_2 {dc : Nat} {h : am_H} {x0 : Int32} {x1 : Int32} {s : St} {g : Int → Int64} (o : h.1[0]? = some (.inr (9, Cfs))) (ol : oL h 133 1 g) (hy : am_X dc 118 0 (am_ent 118 [.ref 0, .int x0, .int x1]) [] h (Cthr h IAE s)) (hd : Nat.ble (dc + 1) 60 = true) : am_X 60 10 0 (am_ent 10 [.ref 0, .int x0, .int x1, .ref 133]) [] h (Wout h 2 0 s) := by
  show am_X 60 10 0 [.ref 0, .int x0, .int x1, .ref 133, am_u] [] h _
  refine ax_aload_n f10_0 rfl ?_
  refine ax_iconst f10_1 ?_
  refine ax_aload_n f10_2 rfl ?_
  refine ax_iload_n f10_3 rfl ?_
  refine ax_iload_n f10_4 rfl ?_
  refine ax_trycall f10_5 (Nat.le_of_ble_eq_true rfl) rfl rfl (Nat.le_of_ble_eq_true rfl) (Nat.le_of_ble_eq_true rfl) o rfl (by decide) hy (Nat.le_of_ble_eq_true hd) ?_ ?_
  · intro rv h1 q
    exact nomatch q.1
  · intro E h1 q
    have e := q.1
    obtain rfl : E = IAE := Sum.inr.inj e
    refine ⟨(19, 4), by decide +kernel, ?_⟩
    refine ax_iconst f10_19 ?_
    refine ax_ireturn f10_20 rfl rfl ?_
    exact Wout_ex q ol (by omega)
theorem w_11 {dc : Nat} {h : am_H} {x0 : Int32} {v : Int} {s : St} {g : Int → Int64} (o : h.1[0]? = some (.inr (9, Cfs))) (ol : oL h 133 1 g) (hy : am_X dc 120 0 (am_ent 120 [.ref 0, .int x0]) [] h (Cout h v s)) (hd : Nat.ble (dc + 1) 60 = true) : am_X 60 11 0 (am_ent 11 [.ref 0, .int x0, .ref 133]) [] h (Wout h 0 v s) := by
  show am_X 60 11 0 [.ref 0, .int x0, .ref 133, am_u] [] h _
  refine ax_aload_n f11_0 rfl ?_
  refine ax_iconst f11_1 ?_
  refine ax_aload_n f11_2 rfl ?_
  refine ax_iload_n f11_3 rfl ?_
  refine ax_trycall f11_4 (Nat.le_of_ble_eq_true rfl) rfl rfl (Nat.le_of_ble_eq_true rfl) (Nat.le_of_ble_eq_true rfl) o rfl (by decide) hy (Nat.le_of_ble_eq_true hd) ?_ ?_
  · intro rv h1 q
    have e := q.1
    obtain rfl : rv = some (.int (iI v)) := Sum.inl.inj e
    have ol1 := ol.fr q.2.2 (by unfold FC; omega)
    refine ax_i2l f11_7 ?_
    refine ax_lastO (z := 0) f11_8 ol1 (by decide) (by decide) rfl (fun h2 o2 r2 => ?_)
    refine ax_goto f11_9 rfl ?_
    refine ax_iconst f11_18 ?_
    refine ax_ireturn f11_19 rfl rfl ?_
    exact Wout_ok q o2 r2
  · intro E h1 q
    exact nomatch q.1
theorem w_11_1 {dc : Nat} {h : am_H} {x0 : Int32} {s : St} {g : Int → Int64} (o : h.1[0]? = some (.inr (9, Cfs))) (ol : oL h 133 1 g) (hy : am_X dc 120 0 (am_ent 120 [.ref 0, .int x0]) [] h (Cthr h IAE s)) (hd : Nat.ble (dc + 1) 60 = true) : am_X 60 11 0 (am_ent 11 [.ref 0, .int x0, .ref 133]) [] h (Wout h 1 0 s) := by
  show am_X 60 11 0 [.ref 0, .int x0, .ref 133, am_u] [] h _
  refine ax_aload_n f11_0 rfl ?_
  refine ax_iconst f11_1 ?_
  refine ax_aload_n f11_2 rfl ?_
  refine ax_iload_n f11_3 rfl ?_
  refine ax_trycall f11_4 (Nat.le_of_ble_eq_true rfl) rfl rfl (Nat.le_of_ble_eq_true rfl) (Nat.le_of_ble_eq_true rfl) o rfl (by decide) hy (Nat.le_of_ble_eq_true hd) ?_ ?_
  · intro rv h1 q
    exact nomatch q.1
  · intro E h1 q
    have e := q.1
    obtain rfl : E = IAE := Sum.inr.inj e
    refine ⟨(13, 3), by decide +kernel, ?_⟩
    refine ax_iconst f11_13 ?_
    refine ax_ireturn f11_14 rfl rfl ?_
    exact Wout_ex q ol (by omega)
theorem w_11_2 {dc : Nat} {h : am_H} {x0 : Int32} {s : St} {g : Int → Int64} (o : h.1[0]? = some (.inr (9, Cfs))) (ol : oL h 133 1 g) (hy : am_X dc 120 0 (am_ent 120 [.ref 0, .int x0]) [] h (Cthr h ISE s)) (hd : Nat.ble (dc + 1) 60 = true) : am_X 60 11 0 (am_ent 11 [.ref 0, .int x0, .ref 133]) [] h (Wout h 2 0 s) := by
  show am_X 60 11 0 [.ref 0, .int x0, .ref 133, am_u] [] h _
  refine ax_aload_n f11_0 rfl ?_
  refine ax_iconst f11_1 ?_
  refine ax_aload_n f11_2 rfl ?_
  refine ax_iload_n f11_3 rfl ?_
  refine ax_trycall f11_4 (Nat.le_of_ble_eq_true rfl) rfl rfl (Nat.le_of_ble_eq_true rfl) (Nat.le_of_ble_eq_true rfl) o rfl (by decide) hy (Nat.le_of_ble_eq_true hd) ?_ ?_
  · intro rv h1 q
    exact nomatch q.1
  · intro E h1 q
    have e := q.1
    obtain rfl : E = ISE := Sum.inr.inj e
    refine ⟨(16, 3), by decide +kernel, ?_⟩
    refine ax_iconst f11_16 ?_
    refine ax_ireturn f11_17 rfl rfl ?_
    exact Wout_ex q ol (by omega)
theorem w_12 {dc : Nat} {h : am_H} {x0 : Int32} {v : Int} {s : St} {g : Int → Int64} (o : h.1[0]? = some (.inr (9, Cfs))) (ol : oL h 133 1 g) (hy : am_X dc 121 0 (am_ent 121 [.ref 0, .int x0]) [] h (Cout h v s)) (hd : Nat.ble (dc + 1) 60 = true) : am_X 60 12 0 (am_ent 12 [.ref 0, .int x0, .ref 133]) [] h (Wout h 0 v s) := by
  show am_X 60 12 0 [.ref 0, .int x0, .ref 133, am_u] [] h _
  refine ax_aload_n f12_0 rfl ?_
  refine ax_iconst f12_1 ?_
  refine ax_aload_n f12_2 rfl ?_
  refine ax_iload_n f12_3 rfl ?_
  refine ax_trycall f12_4 (Nat.le_of_ble_eq_true rfl) rfl rfl (Nat.le_of_ble_eq_true rfl) (Nat.le_of_ble_eq_true rfl) o rfl (by decide) hy (Nat.le_of_ble_eq_true hd) ?_ ?_
  · intro rv h1 q
    have e := q.1
    obtain rfl : rv = some (.int (iI v)) := Sum.inl.inj e
    have ol1 := ol.fr q.2.2 (by unfold FC; omega)
    refine ax_i2l f12_7 ?_
    refine ax_lastO (z := 0) f12_8 ol1 (by decide) (by decide) rfl (fun h2 o2 r2 => ?_)
    refine ax_goto f12_9 rfl ?_
    refine ax_iconst f12_15 ?_
    refine ax_ireturn f12_16 rfl rfl ?_
    exact Wout_ok q o2 r2
  · intro E h1 q
    exact nomatch q.1
theorem w_12_1 {dc : Nat} {h : am_H} {x0 : Int32} {s : St} {g : Int → Int64} (o : h.1[0]? = some (.inr (9, Cfs))) (ol : oL h 133 1 g) (hy : am_X dc 121 0 (am_ent 121 [.ref 0, .int x0]) [] h (Cthr h IAE s)) (hd : Nat.ble (dc + 1) 60 = true) : am_X 60 12 0 (am_ent 12 [.ref 0, .int x0, .ref 133]) [] h (Wout h 1 0 s) := by
  show am_X 60 12 0 [.ref 0, .int x0, .ref 133, am_u] [] h _
  refine ax_aload_n f12_0 rfl ?_
  refine ax_iconst f12_1 ?_
  refine ax_aload_n f12_2 rfl ?_
  refine ax_iload_n f12_3 rfl ?_
  refine ax_trycall f12_4 (Nat.le_of_ble_eq_true rfl) rfl rfl (Nat.le_of_ble_eq_true rfl) (Nat.le_of_ble_eq_true rfl) o rfl (by decide) hy (Nat.le_of_ble_eq_true hd) ?_ ?_
  · intro rv h1 q
    exact nomatch q.1
  · intro E h1 q
    have e := q.1
    obtain rfl : E = IAE := Sum.inr.inj e
    refine ⟨(13, 3), by decide +kernel, ?_⟩
    refine ax_iconst f12_13 ?_
    refine ax_ireturn f12_14 rfl rfl ?_
    exact Wout_ex q ol (by omega)
theorem w_13 {dc : Nat} {h : am_H}  {v : Int} {s : St} {g : Int → Int64} (o : h.1[0]? = some (.inr (9, Cfs))) (ol : oL h 133 1 g) (hy : am_X dc 122 0 (am_ent 122 [.ref 0]) [] h (Cout h v s)) (hd : Nat.ble (dc + 1) 60 = true) : am_X 60 13 0 (am_ent 13 [.ref 0, .ref 133]) [] h (Wout h 0 v s) := by
  show am_X 60 13 0 [.ref 0, .ref 133, am_u] [] h _
  refine ax_aload_n f13_0 rfl ?_
  refine ax_iconst f13_1 ?_
  refine ax_aload_n f13_2 rfl ?_
  refine ax_trycall f13_3 (Nat.le_of_ble_eq_true rfl) rfl rfl (Nat.le_of_ble_eq_true rfl) (Nat.le_of_ble_eq_true rfl) o rfl (by decide) hy (Nat.le_of_ble_eq_true hd) ?_ ?_
  · intro rv h1 q
    have e := q.1
    obtain rfl : rv = some (.int (iI v)) := Sum.inl.inj e
    have ol1 := ol.fr q.2.2 (by unfold FC; omega)
    refine ax_i2l f13_6 ?_
    refine ax_lastO (z := 0) f13_7 ol1 (by decide) (by decide) rfl (fun h2 o2 r2 => ?_)
    refine ax_goto f13_8 rfl ?_
    refine ax_iconst f13_14 ?_
    refine ax_ireturn f13_15 rfl rfl ?_
    exact Wout_ok q o2 r2
  · intro E h1 q
    exact nomatch q.1
theorem w_13_1 {dc : Nat} {h : am_H}  {s : St} {g : Int → Int64} (o : h.1[0]? = some (.inr (9, Cfs))) (ol : oL h 133 1 g) (hy : am_X dc 122 0 (am_ent 122 [.ref 0]) [] h (Cthr h ISE s)) (hd : Nat.ble (dc + 1) 60 = true) : am_X 60 13 0 (am_ent 13 [.ref 0, .ref 133]) [] h (Wout h 1 0 s) := by
  show am_X 60 13 0 [.ref 0, .ref 133, am_u] [] h _
  refine ax_aload_n f13_0 rfl ?_
  refine ax_iconst f13_1 ?_
  refine ax_aload_n f13_2 rfl ?_
  refine ax_trycall f13_3 (Nat.le_of_ble_eq_true rfl) rfl rfl (Nat.le_of_ble_eq_true rfl) (Nat.le_of_ble_eq_true rfl) o rfl (by decide) hy (Nat.le_of_ble_eq_true hd) ?_ ?_
  · intro rv h1 q
    exact nomatch q.1
  · intro E h1 q
    have e := q.1
    obtain rfl : E = ISE := Sum.inr.inj e
    refine ⟨(12, 2), by decide +kernel, ?_⟩
    refine ax_iconst f13_12 ?_
    refine ax_ireturn f13_13 rfl rfl ?_
    exact Wout_ex q ol (by omega)
theorem w_14 {dc : Nat} {h : am_H} {x0 : Int32} {x1 : Int32} {v : Int} {s : St} {g : Int → Int64} (o : h.1[0]? = some (.inr (9, Cfs))) (ol : oL h 133 1 g) (hy : am_X dc 123 0 (am_ent 123 [.ref 0, .int x0, .int x1]) [] h (Cout h v s)) (hd : Nat.ble (dc + 1) 60 = true) : am_X 60 14 0 (am_ent 14 [.ref 0, .int x0, .int x1, .ref 133]) [] h (Wout h 0 v s) := by
  show am_X 60 14 0 [.ref 0, .int x0, .int x1, .ref 133, am_u] [] h _
  refine ax_aload_n f14_0 rfl ?_
  refine ax_iconst f14_1 ?_
  refine ax_aload_n f14_2 rfl ?_
  refine ax_iload_n f14_3 rfl ?_
  refine ax_iload_n f14_4 rfl ?_
  refine ax_trycall f14_5 (Nat.le_of_ble_eq_true rfl) rfl rfl (Nat.le_of_ble_eq_true rfl) (Nat.le_of_ble_eq_true rfl) o rfl (by decide) hy (Nat.le_of_ble_eq_true hd) ?_ ?_
  · intro rv h1 q
    have e := q.1
    obtain rfl : rv = some (.int (iI v)) := Sum.inl.inj e
    have ol1 := ol.fr q.2.2 (by unfold FC; omega)
    refine ax_i2l f14_8 ?_
    refine ax_lastO (z := 0) f14_9 ol1 (by decide) (by decide) rfl (fun h2 o2 r2 => ?_)
    refine ax_goto f14_10 rfl ?_
    refine ax_iconst f14_21 ?_
    refine ax_ireturn f14_22 rfl rfl ?_
    exact Wout_ok q o2 r2
  · intro E h1 q
    exact nomatch q.1
theorem w_14_1 {dc : Nat} {h : am_H} {x0 : Int32} {x1 : Int32} {s : St} {g : Int → Int64} (o : h.1[0]? = some (.inr (9, Cfs))) (ol : oL h 133 1 g) (hy : am_X dc 123 0 (am_ent 123 [.ref 0, .int x0, .int x1]) [] h (Cthr h IAE s)) (hd : Nat.ble (dc + 1) 60 = true) : am_X 60 14 0 (am_ent 14 [.ref 0, .int x0, .int x1, .ref 133]) [] h (Wout h 1 0 s) := by
  show am_X 60 14 0 [.ref 0, .int x0, .int x1, .ref 133, am_u] [] h _
  refine ax_aload_n f14_0 rfl ?_
  refine ax_iconst f14_1 ?_
  refine ax_aload_n f14_2 rfl ?_
  refine ax_iload_n f14_3 rfl ?_
  refine ax_iload_n f14_4 rfl ?_
  refine ax_trycall f14_5 (Nat.le_of_ble_eq_true rfl) rfl rfl (Nat.le_of_ble_eq_true rfl) (Nat.le_of_ble_eq_true rfl) o rfl (by decide) hy (Nat.le_of_ble_eq_true hd) ?_ ?_
  · intro rv h1 q
    exact nomatch q.1
  · intro E h1 q
    have e := q.1
    obtain rfl : E = IAE := Sum.inr.inj e
    refine ⟨(15, 4), by decide +kernel, ?_⟩
    refine ax_iconst f14_15 ?_
    refine ax_ireturn f14_16 rfl rfl ?_
    exact Wout_ex q ol (by omega)
theorem w_14_2 {dc : Nat} {h : am_H} {x0 : Int32} {x1 : Int32} {s : St} {g : Int → Int64} (o : h.1[0]? = some (.inr (9, Cfs))) (ol : oL h 133 1 g) (hy : am_X dc 123 0 (am_ent 123 [.ref 0, .int x0, .int x1]) [] h (Cthr h ISE s)) (hd : Nat.ble (dc + 1) 60 = true) : am_X 60 14 0 (am_ent 14 [.ref 0, .int x0, .int x1, .ref 133]) [] h (Wout h 2 0 s) := by
  show am_X 60 14 0 [.ref 0, .int x0, .int x1, .ref 133, am_u] [] h _
  refine ax_aload_n f14_0 rfl ?_
  refine ax_iconst f14_1 ?_
  refine ax_aload_n f14_2 rfl ?_
  refine ax_iload_n f14_3 rfl ?_
  refine ax_iload_n f14_4 rfl ?_
  refine ax_trycall f14_5 (Nat.le_of_ble_eq_true rfl) rfl rfl (Nat.le_of_ble_eq_true rfl) (Nat.le_of_ble_eq_true rfl) o rfl (by decide) hy (Nat.le_of_ble_eq_true hd) ?_ ?_
  · intro rv h1 q
    exact nomatch q.1
  · intro E h1 q
    have e := q.1
    obtain rfl : E = ISE := Sum.inr.inj e
    refine ⟨(19, 4), by decide +kernel, ?_⟩
    refine ax_iconst f14_19 ?_
    refine ax_ireturn f14_20 rfl rfl ?_
    exact Wout_ex q ol (by omega)
theorem w_15 {dc : Nat} {h : am_H} {x0 : Int32} {x1 : Int32} {x2 : Int32} {v : Int} {s : St} {g : Int → Int64} (o : h.1[0]? = some (.inr (9, Cfs))) (ol : oL h 133 1 g) (hy : am_X dc 125 0 (am_ent 125 [.ref 0, .int x0, .int x1, .int x2]) [] h (Cout h v s)) (hd : Nat.ble (dc + 1) 60 = true) : am_X 60 15 0 (am_ent 15 [.ref 0, .int x0, .int x1, .int x2, .ref 133]) [] h (Wout h 0 v s) := by
  show am_X 60 15 0 [.ref 0, .int x0, .int x1, .int x2, .ref 133, am_u] [] h _
  refine ax_aload f15_0 rfl ?_
  refine ax_iconst f15_2 ?_
  refine ax_aload_n f15_3 rfl ?_
  refine ax_iload_n f15_4 rfl ?_
  refine ax_iload_n f15_5 rfl ?_
  refine ax_iload_n f15_6 rfl ?_
  refine ax_trycall f15_7 (Nat.le_of_ble_eq_true rfl) rfl rfl (Nat.le_of_ble_eq_true rfl) (Nat.le_of_ble_eq_true rfl) o rfl (by decide) hy (Nat.le_of_ble_eq_true hd) ?_ ?_
  · intro rv h1 q
    have e := q.1
    obtain rfl : rv = some (.int (iI v)) := Sum.inl.inj e
    have ol1 := ol.fr q.2.2 (by unfold FC; omega)
    refine ax_i2l f15_10 ?_
    refine ax_lastO (z := 0) f15_11 ol1 (by decide) (by decide) rfl (fun h2 o2 r2 => ?_)
    refine ax_goto f15_12 rfl ?_
    refine ax_iconst f15_23 ?_
    refine ax_ireturn f15_24 rfl rfl ?_
    exact Wout_ok q o2 r2
  · intro E h1 q
    exact nomatch q.1
theorem w_15_1 {dc : Nat} {h : am_H} {x0 : Int32} {x1 : Int32} {x2 : Int32} {s : St} {g : Int → Int64} (o : h.1[0]? = some (.inr (9, Cfs))) (ol : oL h 133 1 g) (hy : am_X dc 125 0 (am_ent 125 [.ref 0, .int x0, .int x1, .int x2]) [] h (Cthr h IOB s)) (hd : Nat.ble (dc + 1) 60 = true) : am_X 60 15 0 (am_ent 15 [.ref 0, .int x0, .int x1, .int x2, .ref 133]) [] h (Wout h 1 0 s) := by
  show am_X 60 15 0 [.ref 0, .int x0, .int x1, .int x2, .ref 133, am_u] [] h _
  refine ax_aload f15_0 rfl ?_
  refine ax_iconst f15_2 ?_
  refine ax_aload_n f15_3 rfl ?_
  refine ax_iload_n f15_4 rfl ?_
  refine ax_iload_n f15_5 rfl ?_
  refine ax_iload_n f15_6 rfl ?_
  refine ax_trycall f15_7 (Nat.le_of_ble_eq_true rfl) rfl rfl (Nat.le_of_ble_eq_true rfl) (Nat.le_of_ble_eq_true rfl) o rfl (by decide) hy (Nat.le_of_ble_eq_true hd) ?_ ?_
  · intro rv h1 q
    exact nomatch q.1
  · intro E h1 q
    have e := q.1
    obtain rfl : E = IOB := Sum.inr.inj e
    refine ⟨(17, 5), by decide +kernel, ?_⟩
    refine ax_iconst f15_17 ?_
    refine ax_ireturn f15_18 rfl rfl ?_
    exact Wout_ex q ol (by omega)
theorem w_15_2 {dc : Nat} {h : am_H} {x0 : Int32} {x1 : Int32} {x2 : Int32} {s : St} {g : Int → Int64} (o : h.1[0]? = some (.inr (9, Cfs))) (ol : oL h 133 1 g) (hy : am_X dc 125 0 (am_ent 125 [.ref 0, .int x0, .int x1, .int x2]) [] h (Cthr h IAE s)) (hd : Nat.ble (dc + 1) 60 = true) : am_X 60 15 0 (am_ent 15 [.ref 0, .int x0, .int x1, .int x2, .ref 133]) [] h (Wout h 2 0 s) := by
  show am_X 60 15 0 [.ref 0, .int x0, .int x1, .int x2, .ref 133, am_u] [] h _
  refine ax_aload f15_0 rfl ?_
  refine ax_iconst f15_2 ?_
  refine ax_aload_n f15_3 rfl ?_
  refine ax_iload_n f15_4 rfl ?_
  refine ax_iload_n f15_5 rfl ?_
  refine ax_iload_n f15_6 rfl ?_
  refine ax_trycall f15_7 (Nat.le_of_ble_eq_true rfl) rfl rfl (Nat.le_of_ble_eq_true rfl) (Nat.le_of_ble_eq_true rfl) o rfl (by decide) hy (Nat.le_of_ble_eq_true hd) ?_ ?_
  · intro rv h1 q
    exact nomatch q.1
  · intro E h1 q
    have e := q.1
    obtain rfl : E = IAE := Sum.inr.inj e
    refine ⟨(21, 5), by decide +kernel, ?_⟩
    refine ax_iconst f15_21 ?_
    refine ax_ireturn f15_22 rfl rfl ?_
    exact Wout_ex q ol (by omega)
theorem w_16 {dc : Nat} {h : am_H} {x0 : Int32} {v : Int} {s : St} {g : Int → Int64} (o : h.1[0]? = some (.inr (9, Cfs))) (ol : oL h 133 1 g) (hy : am_X dc 126 0 (am_ent 126 [.ref 0, .int x0]) [] h (Cout h v s)) (hd : Nat.ble (dc + 1) 60 = true) : am_X 60 16 0 (am_ent 16 [.ref 0, .int x0, .ref 133]) [] h (Wout h 0 v s) := by
  show am_X 60 16 0 [.ref 0, .int x0, .ref 133, am_u] [] h _
  refine ax_aload_n f16_0 rfl ?_
  refine ax_iconst f16_1 ?_
  refine ax_aload_n f16_2 rfl ?_
  refine ax_iload_n f16_3 rfl ?_
  refine ax_trycall f16_4 (Nat.le_of_ble_eq_true rfl) rfl rfl (Nat.le_of_ble_eq_true rfl) (Nat.le_of_ble_eq_true rfl) o rfl (by decide) hy (Nat.le_of_ble_eq_true hd) ?_ ?_
  · intro rv h1 q
    have e := q.1
    obtain rfl : rv = some (.int (iI v)) := Sum.inl.inj e
    have ol1 := ol.fr q.2.2 (by unfold FC; omega)
    refine ax_i2l f16_7 ?_
    refine ax_lastO (z := 0) f16_8 ol1 (by decide) (by decide) rfl (fun h2 o2 r2 => ?_)
    refine ax_goto f16_9 rfl ?_
    refine ax_iconst f16_15 ?_
    refine ax_ireturn f16_16 rfl rfl ?_
    exact Wout_ok q o2 r2
  · intro E h1 q
    exact nomatch q.1
theorem w_16_1 {dc : Nat} {h : am_H} {x0 : Int32} {s : St} {g : Int → Int64} (o : h.1[0]? = some (.inr (9, Cfs))) (ol : oL h 133 1 g) (hy : am_X dc 126 0 (am_ent 126 [.ref 0, .int x0]) [] h (Cthr h IOB s)) (hd : Nat.ble (dc + 1) 60 = true) : am_X 60 16 0 (am_ent 16 [.ref 0, .int x0, .ref 133]) [] h (Wout h 1 0 s) := by
  show am_X 60 16 0 [.ref 0, .int x0, .ref 133, am_u] [] h _
  refine ax_aload_n f16_0 rfl ?_
  refine ax_iconst f16_1 ?_
  refine ax_aload_n f16_2 rfl ?_
  refine ax_iload_n f16_3 rfl ?_
  refine ax_trycall f16_4 (Nat.le_of_ble_eq_true rfl) rfl rfl (Nat.le_of_ble_eq_true rfl) (Nat.le_of_ble_eq_true rfl) o rfl (by decide) hy (Nat.le_of_ble_eq_true hd) ?_ ?_
  · intro rv h1 q
    exact nomatch q.1
  · intro E h1 q
    have e := q.1
    obtain rfl : E = IOB := Sum.inr.inj e
    refine ⟨(13, 3), by decide +kernel, ?_⟩
    refine ax_iconst f16_13 ?_
    refine ax_ireturn f16_14 rfl rfl ?_
    exact Wout_ex q ol (by omega)
theorem w_17 {dc : Nat} {h : am_H} {x0 : Int32} {v : Int} {s : St} {g : Int → Int64} (o : h.1[0]? = some (.inr (9, Cfs))) (ol : oL h 133 1 g) (hy : am_X dc 127 0 (am_ent 127 [.ref 0, .int x0]) [] h (Cout h v s)) (hd : Nat.ble (dc + 1) 60 = true) : am_X 60 17 0 (am_ent 17 [.ref 0, .int x0, .ref 133]) [] h (Wout h 0 v s) := by
  show am_X 60 17 0 [.ref 0, .int x0, .ref 133, am_u] [] h _
  refine ax_aload_n f17_0 rfl ?_
  refine ax_iconst f17_1 ?_
  refine ax_aload_n f17_2 rfl ?_
  refine ax_iload_n f17_3 rfl ?_
  refine ax_trycall f17_4 (Nat.le_of_ble_eq_true rfl) rfl rfl (Nat.le_of_ble_eq_true rfl) (Nat.le_of_ble_eq_true rfl) o rfl (by decide) hy (Nat.le_of_ble_eq_true hd) ?_ ?_
  · intro rv h1 q
    have e := q.1
    obtain rfl : rv = some (.int (iI v)) := Sum.inl.inj e
    have ol1 := ol.fr q.2.2 (by unfold FC; omega)
    refine ax_i2l f17_7 ?_
    refine ax_lastO (z := 0) f17_8 ol1 (by decide) (by decide) rfl (fun h2 o2 r2 => ?_)
    refine ax_goto f17_9 rfl ?_
    refine ax_iconst f17_15 ?_
    refine ax_ireturn f17_16 rfl rfl ?_
    exact Wout_ok q o2 r2
  · intro E h1 q
    exact nomatch q.1
theorem w_17_1 {dc : Nat} {h : am_H} {x0 : Int32} {s : St} {g : Int → Int64} (o : h.1[0]? = some (.inr (9, Cfs))) (ol : oL h 133 1 g) (hy : am_X dc 127 0 (am_ent 127 [.ref 0, .int x0]) [] h (Cthr h IAE s)) (hd : Nat.ble (dc + 1) 60 = true) : am_X 60 17 0 (am_ent 17 [.ref 0, .int x0, .ref 133]) [] h (Wout h 1 0 s) := by
  show am_X 60 17 0 [.ref 0, .int x0, .ref 133, am_u] [] h _
  refine ax_aload_n f17_0 rfl ?_
  refine ax_iconst f17_1 ?_
  refine ax_aload_n f17_2 rfl ?_
  refine ax_iload_n f17_3 rfl ?_
  refine ax_trycall f17_4 (Nat.le_of_ble_eq_true rfl) rfl rfl (Nat.le_of_ble_eq_true rfl) (Nat.le_of_ble_eq_true rfl) o rfl (by decide) hy (Nat.le_of_ble_eq_true hd) ?_ ?_
  · intro rv h1 q
    exact nomatch q.1
  · intro E h1 q
    have e := q.1
    obtain rfl : E = IAE := Sum.inr.inj e
    refine ⟨(13, 3), by decide +kernel, ?_⟩
    refine ax_iconst f17_13 ?_
    refine ax_ireturn f17_14 rfl rfl ?_
    exact Wout_ex q ol (by omega)
theorem w_18 {dc : Nat} {h : am_H} {x0 : Int32} {v : Int} {s : St} {g : Int → Int64} (o : h.1[0]? = some (.inr (9, Cfs))) (ol : oL h 133 1 g) (hy : am_X dc 128 0 (am_ent 128 [.ref 0, .int x0]) [] h (Cout h v s)) (hd : Nat.ble (dc + 1) 60 = true) : am_X 60 18 0 (am_ent 18 [.ref 0, .int x0, .ref 133]) [] h (Wout h 0 v s) := by
  show am_X 60 18 0 [.ref 0, .int x0, .ref 133, am_u] [] h _
  refine ax_aload_n f18_0 rfl ?_
  refine ax_iconst f18_1 ?_
  refine ax_aload_n f18_2 rfl ?_
  refine ax_iload_n f18_3 rfl ?_
  refine ax_trycall f18_4 (Nat.le_of_ble_eq_true rfl) rfl rfl (Nat.le_of_ble_eq_true rfl) (Nat.le_of_ble_eq_true rfl) o rfl (by decide) hy (Nat.le_of_ble_eq_true hd) ?_ ?_
  · intro rv h1 q
    have e := q.1
    obtain rfl : rv = some (.int (iI v)) := Sum.inl.inj e
    have ol1 := ol.fr q.2.2 (by unfold FC; omega)
    refine ax_i2l f18_7 ?_
    refine ax_lastO (z := 0) f18_8 ol1 (by decide) (by decide) rfl (fun h2 o2 r2 => ?_)
    refine ax_goto f18_9 rfl ?_
    refine ax_iconst f18_18 ?_
    refine ax_ireturn f18_19 rfl rfl ?_
    exact Wout_ok q o2 r2
  · intro E h1 q
    exact nomatch q.1
theorem w_18_1 {dc : Nat} {h : am_H} {x0 : Int32} {s : St} {g : Int → Int64} (o : h.1[0]? = some (.inr (9, Cfs))) (ol : oL h 133 1 g) (hy : am_X dc 128 0 (am_ent 128 [.ref 0, .int x0]) [] h (Cthr h IOB s)) (hd : Nat.ble (dc + 1) 60 = true) : am_X 60 18 0 (am_ent 18 [.ref 0, .int x0, .ref 133]) [] h (Wout h 1 0 s) := by
  show am_X 60 18 0 [.ref 0, .int x0, .ref 133, am_u] [] h _
  refine ax_aload_n f18_0 rfl ?_
  refine ax_iconst f18_1 ?_
  refine ax_aload_n f18_2 rfl ?_
  refine ax_iload_n f18_3 rfl ?_
  refine ax_trycall f18_4 (Nat.le_of_ble_eq_true rfl) rfl rfl (Nat.le_of_ble_eq_true rfl) (Nat.le_of_ble_eq_true rfl) o rfl (by decide) hy (Nat.le_of_ble_eq_true hd) ?_ ?_
  · intro rv h1 q
    exact nomatch q.1
  · intro E h1 q
    have e := q.1
    obtain rfl : E = IOB := Sum.inr.inj e
    refine ⟨(13, 3), by decide +kernel, ?_⟩
    refine ax_iconst f18_13 ?_
    refine ax_ireturn f18_14 rfl rfl ?_
    exact Wout_ex q ol (by omega)
theorem w_18_2 {dc : Nat} {h : am_H} {x0 : Int32} {s : St} {g : Int → Int64} (o : h.1[0]? = some (.inr (9, Cfs))) (ol : oL h 133 1 g) (hy : am_X dc 128 0 (am_ent 128 [.ref 0, .int x0]) [] h (Cthr h ISE s)) (hd : Nat.ble (dc + 1) 60 = true) : am_X 60 18 0 (am_ent 18 [.ref 0, .int x0, .ref 133]) [] h (Wout h 2 0 s) := by
  show am_X 60 18 0 [.ref 0, .int x0, .ref 133, am_u] [] h _
  refine ax_aload_n f18_0 rfl ?_
  refine ax_iconst f18_1 ?_
  refine ax_aload_n f18_2 rfl ?_
  refine ax_iload_n f18_3 rfl ?_
  refine ax_trycall f18_4 (Nat.le_of_ble_eq_true rfl) rfl rfl (Nat.le_of_ble_eq_true rfl) (Nat.le_of_ble_eq_true rfl) o rfl (by decide) hy (Nat.le_of_ble_eq_true hd) ?_ ?_
  · intro rv h1 q
    exact nomatch q.1
  · intro E h1 q
    have e := q.1
    obtain rfl : E = ISE := Sum.inr.inj e
    refine ⟨(16, 3), by decide +kernel, ?_⟩
    refine ax_iconst f18_16 ?_
    refine ax_ireturn f18_17 rfl rfl ?_
    exact Wout_ex q ol (by omega)
theorem w_19 {dc : Nat} {h : am_H} {x0 : Int32} {x1 : Int64} {v : Int} {s : St} {g : Int → Int64} (o : h.1[0]? = some (.inr (9, Cfs))) (ol : oL h 133 1 g) (hy : am_X dc 130 0 (am_ent 130 [.ref 0, .int x0, .long x1]) [] h (Cout h v s)) (hd : Nat.ble (dc + 1) 60 = true) : am_X 60 19 0 (am_ent 19 [.ref 0, .int x0, .long x1, .ref 133]) [] h (Wout h 0 v s) := by
  show am_X 60 19 0 [.ref 0, .int x0, .long x1, am_u, .ref 133, am_u] [] h _
  refine ax_aload f19_0 rfl ?_
  refine ax_iconst f19_2 ?_
  refine ax_aload_n f19_3 rfl ?_
  refine ax_iload_n f19_4 rfl ?_
  refine ax_lload_n f19_5 rfl ?_
  refine ax_trycall f19_6 (Nat.le_of_ble_eq_true rfl) rfl rfl (Nat.le_of_ble_eq_true rfl) (Nat.le_of_ble_eq_true rfl) o rfl (by decide) hy (Nat.le_of_ble_eq_true hd) ?_ ?_
  · intro rv h1 q
    have e := q.1
    obtain rfl : rv = some (.int (iI v)) := Sum.inl.inj e
    have ol1 := ol.fr q.2.2 (by unfold FC; omega)
    refine ax_i2l f19_9 ?_
    refine ax_lastO (z := 0) f19_10 ol1 (by decide) (by decide) rfl (fun h2 o2 r2 => ?_)
    refine ax_goto f19_11 rfl ?_
    refine ax_iconst f19_18 ?_
    refine ax_ireturn f19_19 rfl rfl ?_
    exact Wout_ok q o2 r2
  · intro E h1 q
    exact nomatch q.1
theorem w_19_1 {dc : Nat} {h : am_H} {x0 : Int32} {x1 : Int64} {s : St} {g : Int → Int64} (o : h.1[0]? = some (.inr (9, Cfs))) (ol : oL h 133 1 g) (hy : am_X dc 130 0 (am_ent 130 [.ref 0, .int x0, .long x1]) [] h (Cthr h IAE s)) (hd : Nat.ble (dc + 1) 60 = true) : am_X 60 19 0 (am_ent 19 [.ref 0, .int x0, .long x1, .ref 133]) [] h (Wout h 1 0 s) := by
  show am_X 60 19 0 [.ref 0, .int x0, .long x1, am_u, .ref 133, am_u] [] h _
  refine ax_aload f19_0 rfl ?_
  refine ax_iconst f19_2 ?_
  refine ax_aload_n f19_3 rfl ?_
  refine ax_iload_n f19_4 rfl ?_
  refine ax_lload_n f19_5 rfl ?_
  refine ax_trycall f19_6 (Nat.le_of_ble_eq_true rfl) rfl rfl (Nat.le_of_ble_eq_true rfl) (Nat.le_of_ble_eq_true rfl) o rfl (by decide) hy (Nat.le_of_ble_eq_true hd) ?_ ?_
  · intro rv h1 q
    exact nomatch q.1
  · intro E h1 q
    have e := q.1
    obtain rfl : E = IAE := Sum.inr.inj e
    refine ⟨(16, 5), by decide +kernel, ?_⟩
    refine ax_iconst f19_16 ?_
    refine ax_ireturn f19_17 rfl rfl ?_
    exact Wout_ex q ol (by omega)
theorem w_20 {dc : Nat} {h : am_H} {x0 : Int64} {x1 : Int32} {v : Int} {s : St} {g : Int → Int64} (o : h.1[0]? = some (.inr (9, Cfs))) (ol : oL h 133 1 g) (hy : am_X dc 131 0 (am_ent 131 [.ref 0, .long x0, .int x1]) [] h (Cout h v s)) (hd : Nat.ble (dc + 1) 60 = true) : am_X 60 20 0 (am_ent 20 [.ref 0, .long x0, .int x1, .ref 133]) [] h (Wout h 0 v s) := by
  show am_X 60 20 0 [.ref 0, .long x0, am_u, .int x1, .ref 133, am_u] [] h _
  refine ax_aload f20_0 rfl ?_
  refine ax_iconst f20_2 ?_
  refine ax_aload_n f20_3 rfl ?_
  refine ax_lload_n f20_4 rfl ?_
  refine ax_iload_n f20_5 rfl ?_
  refine ax_trycall f20_6 (Nat.le_of_ble_eq_true rfl) rfl rfl (Nat.le_of_ble_eq_true rfl) (Nat.le_of_ble_eq_true rfl) o rfl (by decide) hy (Nat.le_of_ble_eq_true hd) ?_ ?_
  · intro rv h1 q
    have e := q.1
    obtain rfl : rv = some (.int (iI v)) := Sum.inl.inj e
    have ol1 := ol.fr q.2.2 (by unfold FC; omega)
    refine ax_i2l f20_9 ?_
    refine ax_lastO (z := 0) f20_10 ol1 (by decide) (by decide) rfl (fun h2 o2 r2 => ?_)
    refine ax_goto f20_11 rfl ?_
    refine ax_iconst f20_18 ?_
    refine ax_ireturn f20_19 rfl rfl ?_
    exact Wout_ok q o2 r2
  · intro E h1 q
    exact nomatch q.1
theorem w_20_1 {dc : Nat} {h : am_H} {x0 : Int64} {x1 : Int32} {s : St} {g : Int → Int64} (o : h.1[0]? = some (.inr (9, Cfs))) (ol : oL h 133 1 g) (hy : am_X dc 131 0 (am_ent 131 [.ref 0, .long x0, .int x1]) [] h (Cthr h IAE s)) (hd : Nat.ble (dc + 1) 60 = true) : am_X 60 20 0 (am_ent 20 [.ref 0, .long x0, .int x1, .ref 133]) [] h (Wout h 1 0 s) := by
  show am_X 60 20 0 [.ref 0, .long x0, am_u, .int x1, .ref 133, am_u] [] h _
  refine ax_aload f20_0 rfl ?_
  refine ax_iconst f20_2 ?_
  refine ax_aload_n f20_3 rfl ?_
  refine ax_lload_n f20_4 rfl ?_
  refine ax_iload_n f20_5 rfl ?_
  refine ax_trycall f20_6 (Nat.le_of_ble_eq_true rfl) rfl rfl (Nat.le_of_ble_eq_true rfl) (Nat.le_of_ble_eq_true rfl) o rfl (by decide) hy (Nat.le_of_ble_eq_true hd) ?_ ?_
  · intro rv h1 q
    exact nomatch q.1
  · intro E h1 q
    have e := q.1
    obtain rfl : E = IAE := Sum.inr.inj e
    refine ⟨(16, 5), by decide +kernel, ?_⟩
    refine ax_iconst f20_16 ?_
    refine ax_ireturn f20_17 rfl rfl ?_
    exact Wout_ex q ol (by omega)
theorem w_21 {dc : Nat} {h : am_H} {x0 : Int32} {v : Int} {s : St} {g : Int → Int64} (o : h.1[0]? = some (.inr (9, Cfs))) (ol : oL h 133 1 g) (hy : am_X dc 132 0 (am_ent 132 [.ref 0, .int x0]) [] h (Cout h v s)) (hd : Nat.ble (dc + 1) 60 = true) : am_X 60 21 0 (am_ent 21 [.ref 0, .int x0, .ref 133]) [] h (Wout h 0 v s) := by
  show am_X 60 21 0 [.ref 0, .int x0, .ref 133, am_u] [] h _
  refine ax_aload_n f21_0 rfl ?_
  refine ax_iconst f21_1 ?_
  refine ax_aload_n f21_2 rfl ?_
  refine ax_iload_n f21_3 rfl ?_
  refine ax_trycall f21_4 (Nat.le_of_ble_eq_true rfl) rfl rfl (Nat.le_of_ble_eq_true rfl) (Nat.le_of_ble_eq_true rfl) o rfl (by decide) hy (Nat.le_of_ble_eq_true hd) ?_ ?_
  · intro rv h1 q
    have e := q.1
    obtain rfl : rv = some (.int (iI v)) := Sum.inl.inj e
    have ol1 := ol.fr q.2.2 (by unfold FC; omega)
    refine ax_i2l f21_7 ?_
    refine ax_lastO (z := 0) f21_8 ol1 (by decide) (by decide) rfl (fun h2 o2 r2 => ?_)
    refine ax_goto f21_9 rfl ?_
    refine ax_iconst f21_15 ?_
    refine ax_ireturn f21_16 rfl rfl ?_
    exact Wout_ok q o2 r2
  · intro E h1 q
    exact nomatch q.1
theorem w_21_1 {dc : Nat} {h : am_H} {x0 : Int32} {s : St} {g : Int → Int64} (o : h.1[0]? = some (.inr (9, Cfs))) (ol : oL h 133 1 g) (hy : am_X dc 132 0 (am_ent 132 [.ref 0, .int x0]) [] h (Cthr h IOB s)) (hd : Nat.ble (dc + 1) 60 = true) : am_X 60 21 0 (am_ent 21 [.ref 0, .int x0, .ref 133]) [] h (Wout h 1 0 s) := by
  show am_X 60 21 0 [.ref 0, .int x0, .ref 133, am_u] [] h _
  refine ax_aload_n f21_0 rfl ?_
  refine ax_iconst f21_1 ?_
  refine ax_aload_n f21_2 rfl ?_
  refine ax_iload_n f21_3 rfl ?_
  refine ax_trycall f21_4 (Nat.le_of_ble_eq_true rfl) rfl rfl (Nat.le_of_ble_eq_true rfl) (Nat.le_of_ble_eq_true rfl) o rfl (by decide) hy (Nat.le_of_ble_eq_true hd) ?_ ?_
  · intro rv h1 q
    exact nomatch q.1
  · intro E h1 q
    have e := q.1
    obtain rfl : E = IOB := Sum.inr.inj e
    refine ⟨(13, 3), by decide +kernel, ?_⟩
    refine ax_iconst f21_13 ?_
    refine ax_ireturn f21_14 rfl rfl ?_
    exact Wout_ex q ol (by omega)
theorem w_22 {dc : Nat} {h : am_H} {x0 : Int32} {v : Int} {s : St} {g : Int → Int64} (o : h.1[0]? = some (.inr (9, Cfs))) (ol : oL h 133 1 g) (hy : am_X dc 133 0 (am_ent 133 [.ref 0, .int x0]) [] h (Cout h v s)) (hd : Nat.ble (dc + 1) 60 = true) : am_X 60 22 0 (am_ent 22 [.ref 0, .int x0, .ref 133]) [] h (Wout h 0 v s) := by
  show am_X 60 22 0 [.ref 0, .int x0, .ref 133, am_u] [] h _
  refine ax_aload_n f22_0 rfl ?_
  refine ax_iconst f22_1 ?_
  refine ax_aload_n f22_2 rfl ?_
  refine ax_iload_n f22_3 rfl ?_
  refine ax_trycall f22_4 (Nat.le_of_ble_eq_true rfl) rfl rfl (Nat.le_of_ble_eq_true rfl) (Nat.le_of_ble_eq_true rfl) o rfl (by decide) hy (Nat.le_of_ble_eq_true hd) ?_ ?_
  · intro rv h1 q
    have e := q.1
    obtain rfl : rv = some (.int (iI v)) := Sum.inl.inj e
    have ol1 := ol.fr q.2.2 (by unfold FC; omega)
    refine ax_i2l f22_7 ?_
    refine ax_lastO (z := 0) f22_8 ol1 (by decide) (by decide) rfl (fun h2 o2 r2 => ?_)
    refine ax_goto f22_9 rfl ?_
    refine ax_iconst f22_18 ?_
    refine ax_ireturn f22_19 rfl rfl ?_
    exact Wout_ok q o2 r2
  · intro E h1 q
    exact nomatch q.1
theorem w_22_1 {dc : Nat} {h : am_H} {x0 : Int32} {s : St} {g : Int → Int64} (o : h.1[0]? = some (.inr (9, Cfs))) (ol : oL h 133 1 g) (hy : am_X dc 133 0 (am_ent 133 [.ref 0, .int x0]) [] h (Cthr h IOB s)) (hd : Nat.ble (dc + 1) 60 = true) : am_X 60 22 0 (am_ent 22 [.ref 0, .int x0, .ref 133]) [] h (Wout h 1 0 s) := by
  show am_X 60 22 0 [.ref 0, .int x0, .ref 133, am_u] [] h _
  refine ax_aload_n f22_0 rfl ?_
  refine ax_iconst f22_1 ?_
  refine ax_aload_n f22_2 rfl ?_
  refine ax_iload_n f22_3 rfl ?_
  refine ax_trycall f22_4 (Nat.le_of_ble_eq_true rfl) rfl rfl (Nat.le_of_ble_eq_true rfl) (Nat.le_of_ble_eq_true rfl) o rfl (by decide) hy (Nat.le_of_ble_eq_true hd) ?_ ?_
  · intro rv h1 q
    exact nomatch q.1
  · intro E h1 q
    have e := q.1
    obtain rfl : E = IOB := Sum.inr.inj e
    refine ⟨(13, 3), by decide +kernel, ?_⟩
    refine ax_iconst f22_13 ?_
    refine ax_ireturn f22_14 rfl rfl ?_
    exact Wout_ex q ol (by omega)
theorem w_22_2 {dc : Nat} {h : am_H} {x0 : Int32} {s : St} {g : Int → Int64} (o : h.1[0]? = some (.inr (9, Cfs))) (ol : oL h 133 1 g) (hy : am_X dc 133 0 (am_ent 133 [.ref 0, .int x0]) [] h (Cthr h ISE s)) (hd : Nat.ble (dc + 1) 60 = true) : am_X 60 22 0 (am_ent 22 [.ref 0, .int x0, .ref 133]) [] h (Wout h 2 0 s) := by
  show am_X 60 22 0 [.ref 0, .int x0, .ref 133, am_u] [] h _
  refine ax_aload_n f22_0 rfl ?_
  refine ax_iconst f22_1 ?_
  refine ax_aload_n f22_2 rfl ?_
  refine ax_iload_n f22_3 rfl ?_
  refine ax_trycall f22_4 (Nat.le_of_ble_eq_true rfl) rfl rfl (Nat.le_of_ble_eq_true rfl) (Nat.le_of_ble_eq_true rfl) o rfl (by decide) hy (Nat.le_of_ble_eq_true hd) ?_ ?_
  · intro rv h1 q
    exact nomatch q.1
  · intro E h1 q
    have e := q.1
    obtain rfl : E = ISE := Sum.inr.inj e
    refine ⟨(16, 3), by decide +kernel, ?_⟩
    refine ax_iconst f22_16 ?_
    refine ax_ireturn f22_17 rfl rfl ?_
    exact Wout_ex q ol (by omega)
end WRP
