/-! ===== words for heaps and answers; rows in these words ===== -/
/-- nothing but S changed -/
def fr (S : Nat → Prop) (h h' : am_H) : Prop := h'.1.length = h.1.length ∧ h'.2 = h.2 ∧ ∀ q, ¬ S q → h'.1[q]? = h.1[q]?
theorem fr_rf {S : Nat → Prop} {h : am_H} : fr S h h := ⟨rfl, rfl, fun _ _ => rfl⟩
theorem fr.trans {S : Nat → Prop} {h h1 h2 : am_H} (a : fr S h h1) (b : fr S h1 h2) : fr S h h2 := ⟨b.1.trans a.1, b.2.1.trans a.2.1, fun q hq => (b.2.2 q hq).trans (a.2.2 q hq)⟩
theorem fr.mono {S T : Nat → Prop} {h h1 : am_H} (a : fr S h h1) (hST : ∀ q, S q → T q) : fr T h h1 := ⟨a.1, a.2.1, fun q hq => a.2.2 q (fun z => hq (hST q z))⟩
theorem fr.at {S : Nat → Prop} {h h1 : am_H} (a : fr S h h1) {q : Nat} {e : va_E} (hq : ¬ S q) (ho : h.1[q]? = some e) : h1.1[q]? = some e := (a.2.2 q hq).trans ho
theorem fr_w {h : am_H} {q : Nat} {e : va_E} : fr (fun x => x = q) h (am_w h q e) := ⟨List.length_set, rfl, fun x hx => List.getElem?_set_ne (fun z => hx z.symm)⟩
theorem am_w_at {h : am_H} {q : Nat} {e0 e : va_E} (ho : h.1[q]? = some e0) : (am_w h q e).1[q]? = some e := List.getElem?_set_self (List.getElem?_eq_some_iff.mp ho).1
/-- an int-like array at q (t: its kind: 0 int, 1 char, 2 boolean), of n elements g -/
def oA (t : Nat) (h : am_H) (q n : Nat) (g : Int → Int) : Prop := ∃ f : Nat → Int32, h.1[q]? = some (.inl (t, n, .inl f)) ∧ ∀ j : Nat, j < n → f j = iI (g j)
abbrev oI : am_H → Nat → Nat → (Int → Int) → Prop := oA 0
/-- an array of longs -/
def oL (h : am_H) (q n : Nat) (g : Int → Int64) : Prop := ∃ f : Nat → Int64, h.1[q]? = some (.inl (3, n, .inr (.inl f))) ∧ ∀ j : Nat, j < n → f j = g j
def uZ {α : Type} (g : Int → α) (i : Int) (v : α) : Int → α := fun j => if j = i then v else g j
theorem uZ_s {α : Type} {g : Int → α} {i : Int} {v : α} : uZ g i v i = v := if_pos rfl
theorem uZ_n {α : Type} {g : Int → α} {i j : Int} {v : α} (h : j ≠ i) : uZ g i v j = g j := if_neg h
theorem oA.fr {t : Nat} {h h' : am_H} {q n : Nat} {g : Int → Int} {S : Nat → Prop} (a : oA t h q n g) (b : fr S h h') (hq : ¬ S q) : oA t h' q n g := by
  obtain ⟨f, h1, h2⟩ := a
  exact ⟨f, b.at hq h1, h2⟩
theorem oL.fr {h h' : am_H} {q n : Nat} {g : Int → Int64} {S : Nat → Prop} (a : oL h q n g) (b : fr S h h') (hq : ¬ S q) : oL h' q n g := by
  obtain ⟨f, h1, h2⟩ := a
  exact ⟨f, b.at hq h1, h2⟩
theorem oA.eq {t : Nat} {h : am_H} {q n : Nat} {g g' : Int → Int} (a : oA t h q n g) (e : ∀ j : Int, 0 ≤ j → j < n → g' j = g j) : oA t h q n g' := by
  obtain ⟨f, h1, h2⟩ := a
  exact ⟨f, h1, fun j hj => by rw [h2 j hj, e j (by omega) (by omega)]⟩
def rI (r : am_R) (z : Int) : Prop := r = .inl (some (.int (iI z)))
def rL (r : am_R) (x : Int64) : Prop := r = .inl (some (.long x))
def rR (r : am_R) (q : Nat) : Prop := r = .inl (some (.ref q))
def rV (r : am_R) : Prop := r = .inl none
def rX (r : am_R) (E : String) : Prop := r = .inr E
theorem rI_of {a b : Int} (h : a = b) : rI (.inl (some (.int (iI a)))) b := by rw [h]; rfl
theorem rI_zof {x : Int32} {b : Int} (h : x = iI b) : rI (.inl (some (.int x))) b := by rw [h]; rfl
theorem rL_of {a b : Int64} (h : a = b) : rL (.inl (some (.long a))) b := by rw [h]; rfl
def b2i (c : Prop) [Decidable c] : Int := if c then 1 else 0
theorem b2i_t {c : Prop} [Decidable c] (h : c) : b2i c = 1 := if_pos h
theorem b2i_f {c : Prop} [Decidable c] (h : ¬ c) : b2i c = 0 := if_neg h
theorem b2i_in {c : Prop} [Decidable c] : b2i c = 0 ∨ b2i c = 1 := by unfold b2i; split <;> simp
section AXO
variable {d m pc : Nat} {ls st : List Value} {h : am_H} {Q : am_R → am_H → Prop}
theorem ax_ialdO {q n : Nat} {g : Int → Int} {z : Int} (hf : am_tab m pc = some (.iaload, 1, 0, 0, 0, .null)) (hm : ¬ m = 1) (ho : oA 0 h q n g) (h1 : 0 ≤ z) (h2 : z < n) (hn : Nat.ble n 60000 = true) (k : am_X d m (pc + 1) ls (.int (iI (g z)) :: st) h Q) : am_X d m pc ls (.int (iI z) :: .ref q :: st) h Q := by
  obtain ⟨f, o1, o2⟩ := ho
  refine ax_iald hf hm o1 h1 h2 (Nat.le_of_ble_eq_true hn) ?_
  rw [o2 _ (by omega), Int.toNat_of_nonneg h1]
  exact k
theorem ax_baldO {q n : Nat} {g : Int → Int} {z : Int} (hf : am_tab m pc = some (.baload, 1, 0, 0, 0, .null)) (ho : oA 2 h q n g) (h1 : 0 ≤ z) (h2 : z < n) (hn : Nat.ble n 60000 = true) (k : am_X d m (pc + 1) ls (.int (iI (g z)) :: st) h Q) : am_X d m pc ls (.int (iI z) :: .ref q :: st) h Q := by
  obtain ⟨f, o1, o2⟩ := ho
  refine ax_bald hf o1 h1 h2 (Nat.le_of_ble_eq_true hn) ?_
  rw [o2 _ (by omega), Int.toNat_of_nonneg h1]
  exact k
theorem ax_caldO {q n : Nat} {g : Int → Int} {z : Int} (hf : am_tab m pc = some (.caload, 1, 0, 0, 0, .null)) (ho : oA 1 h q n g) (h1 : 0 ≤ z) (h2 : z < n) (hn : Nat.ble n 60000 = true) (k : am_X d m (pc + 1) ls (.int (iI (g z)) :: st) h Q) : am_X d m pc ls (.int (iI z) :: .ref q :: st) h Q := by
  obtain ⟨f, o1, o2⟩ := ho
  refine ax_cald hf o1 h1 h2 (Nat.le_of_ble_eq_true hn) ?_
  rw [o2 _ (by omega), Int.toNat_of_nonneg h1]
  exact k
theorem ax_laldO {q n : Nat} {g : Int → Int64} {z : Int} (hf : am_tab m pc = some (.laload, 1, 0, 0, 0, .null)) (ho : oL h q n g) (h1 : 0 ≤ z) (h2 : z < n) (hn : Nat.ble n 60000 = true) (k : am_X d m (pc + 1) ls (.long (g z) :: st) h Q) : am_X d m pc ls (.int (iI z) :: .ref q :: st) h Q := by
  obtain ⟨f, o1, o2⟩ := ho
  refine ax_lald hf o1 h1 h2 (Nat.le_of_ble_eq_true hn) ?_
  rw [o2 _ (by omega), Int.toNat_of_nonneg h1]
  exact k
theorem oA_upd {n : Nat} {f : Nat → Int32} {g : Int → Int} {z v : Int} (o2 : ∀ j : Nat, j < n → f j = iI (g j)) (h1 : 0 ≤ z) (j : Nat) (hj : j < n) : upd f z.toNat (iI v) j = iI (uZ g z v j) := by
  unfold upd uZ
  by_cases e : j = z.toNat
  · rw [if_pos e, if_pos (by omega)]
  · rw [if_neg e, if_neg (by omega), o2 j hj]
theorem ax_iastO {q n : Nat} {g : Int → Int} {z v : Int} (hf : am_tab m pc = some (.iastore, 1, 0, 0, 0, .null)) (ho : oA 0 h q n g) (h1 : 0 ≤ z) (h2 : z < n) (hn : Nat.ble n 60000 = true) (k : ∀ h' : am_H, oA 0 h' q n (uZ g z v) → fr (fun x => x = q) h h' → am_X d m (pc + 1) ls st h' Q) : am_X d m pc ls (.int (iI v) :: .int (iI z) :: .ref q :: st) h Q := by
  obtain ⟨f, o1, o2⟩ := ho
  exact ax_iast hf o1 h1 h2 (Nat.le_of_ble_eq_true hn) (k _ ⟨_, am_w_at o1, fun j hj => oA_upd o2 h1 j hj⟩ fr_w)
theorem vp_nar_b {v : Int} (h : v = 0 ∨ v = 1) : vp_nar .boolean (iI v) = iI v := by rcases h with rfl | rfl <;> decide
theorem ax_bastO {q n : Nat} {g : Int → Int} {z v : Int} (hf : am_tab m pc = some (.bastore, 1, 0, 0, 0, .null)) (ho : oA 2 h q n g) (h1 : 0 ≤ z) (h2 : z < n) (hn : Nat.ble n 60000 = true) (hv : v = 0 ∨ v = 1) (k : ∀ h' : am_H, oA 2 h' q n (uZ g z v) → fr (fun x => x = q) h h' → am_X d m (pc + 1) ls st h' Q) : am_X d m pc ls (.int (iI v) :: .int (iI z) :: .ref q :: st) h Q := by
  obtain ⟨f, o1, o2⟩ := ho
  exact ax_bast hf o1 h1 h2 (Nat.le_of_ble_eq_true hn) (vp_nar_b hv) (k _ ⟨_, am_w_at o1, fun j hj => oA_upd o2 h1 j hj⟩ fr_w)
theorem vp_nar_c {v : Int} (h1 : 0 ≤ v) (h2 : v < 65536) : vp_nar .char (iI v) = iI v := by
  have e1 : iI v = nI v.toNat := by
    rw [← Int32.toInt_inj, iI_toInt ⟨by omega, by omega⟩, nI_toInt (by omega)]
    omega
  rw [e1, vp_nar_char, fb_char (by omega)]
theorem ax_castO {q n : Nat} {g : Int → Int} {z v : Int} (hf : am_tab m pc = some (.castore, 1, 0, 0, 0, .null)) (ho : oA 1 h q n g) (h1 : 0 ≤ z) (h2 : z < n) (hn : Nat.ble n 60000 = true) (hv1 : 0 ≤ v) (hv2 : v < 65536) (k : ∀ h' : am_H, oA 1 h' q n (uZ g z v) → fr (fun x => x = q) h h' → am_X d m (pc + 1) ls st h' Q) : am_X d m pc ls (.int (iI v) :: .int (iI z) :: .ref q :: st) h Q := by
  obtain ⟨f, o1, o2⟩ := ho
  exact ax_cast hf o1 h1 h2 (Nat.le_of_ble_eq_true hn) (vp_nar_c hv1 hv2) (k _ ⟨_, am_w_at o1, fun j hj => oA_upd o2 h1 j hj⟩ fr_w)
theorem ax_lastO {q n : Nat} {g : Int → Int64} {z : Int} {x : Int64} (hf : am_tab m pc = some (.lastore, 1, 0, 0, 0, .null)) (ho : oL h q n g) (h1 : 0 ≤ z) (h2 : z < n) (hn : Nat.ble n 60000 = true) (k : ∀ h' : am_H, oL h' q n (uZ g z x) → fr (fun y => y = q) h h' → am_X d m (pc + 1) ls st h' Q) : am_X d m pc ls (.long x :: .int (iI z) :: .ref q :: st) h Q := by
  obtain ⟨f, o1, o2⟩ := ho
  refine ax_last hf o1 h1 h2 (Nat.le_of_ble_eq_true hn) (k _ ⟨_, am_w_at o1, fun j hj => ?_⟩ fr_w)
  unfold vp_updL uZ
  by_cases e : j = z.toNat
  · rw [if_pos e, if_pos (by omega)]
  · rw [if_neg e, if_neg (by omega), o2 j hj]
theorem ax_putfO {i a b w q : Nat} {v0 v : Value} {fs fs' : List Value} (hf : am_tab m pc = some (.putfield i, 3, a, b, w, v0)) (ho : h.1[q]? = some (.inr (a, fs))) (hl : Nat.blt b fs.length = true) (hn : narrow (am_ft a b) v = v) (hfit : fits (am_ft a b) v = true) (hs : fs.set b v = fs') (k : ∀ h' : am_H, h'.1[q]? = some (.inr (a, fs')) → fr (fun y => y = q) h h' → am_X d m (pc + 3) ls st h' Q) : am_X d m pc ls (v :: .ref q :: st) h Q :=
  ax_putf hf ho (Nat.le_of_ble_eq_true hl) hn hfit hs (k _ (am_w_at ho) fr_w)
/-- calls by what they answer: an int, a long, a reference, nothing -/
theorem ax_cvI {i y nb w q ci dc : Nat} {fs as' rest : List Value} {z : Int} {P : am_H → Prop} (hf : am_tab m pc = some (.invokevirtual i, 3, y, nb, w, .int 0)) (ho : h.1[q]? = some (.inr (ci, fs))) (hl : Nat.ble nb st.length = true) (hs : (st.take nb).reverse = .ref q :: as') (hr : st.drop nb = rest) (hc : Nat.ble (am_cs rest) 8 = true) (hm : Nat.ble (am_cs (.ref q :: as')) (am_mx y) = true) (hcn : (am_q ci).1 = am_cn y) (hci : Nat.blt ci vwCl.length = true) (hd : Nat.ble (dc + 1) d = true)
    (hy : am_X dc y 0 (am_ent y (.ref q :: as')) [] h (fun r h' => rI r z ∧ P h')) (k : ∀ h', P h' → am_X d m (pc + 3) ls (.int (iI z) :: rest) h' Q) : am_X d m pc ls st h Q :=
  ax_callv hf (Nat.le_of_ble_eq_true hl) hs hr (Nat.le_of_ble_eq_true hc) (Nat.le_of_ble_eq_true hm) ho hcn (Nat.le_of_ble_eq_true hci) hy (Nat.le_of_ble_eq_true hd) (fun r h' hp => ⟨_, hp.1, k h' hp.2⟩)
theorem ax_cvL {i y nb w q ci dc : Nat} {fs as' rest : List Value} {x : Int64} {P : am_H → Prop} (hf : am_tab m pc = some (.invokevirtual i, 3, y, nb, w, .int 0)) (ho : h.1[q]? = some (.inr (ci, fs))) (hl : Nat.ble nb st.length = true) (hs : (st.take nb).reverse = .ref q :: as') (hr : st.drop nb = rest) (hc : Nat.ble (am_cs rest) 8 = true) (hm : Nat.ble (am_cs (.ref q :: as')) (am_mx y) = true) (hcn : (am_q ci).1 = am_cn y) (hci : Nat.blt ci vwCl.length = true) (hd : Nat.ble (dc + 1) d = true)
    (hy : am_X dc y 0 (am_ent y (.ref q :: as')) [] h (fun r h' => rL r x ∧ P h')) (k : ∀ h', P h' → am_X d m (pc + 3) ls (.long x :: rest) h' Q) : am_X d m pc ls st h Q :=
  ax_callv hf (Nat.le_of_ble_eq_true hl) hs hr (Nat.le_of_ble_eq_true hc) (Nat.le_of_ble_eq_true hm) ho hcn (Nat.le_of_ble_eq_true hci) hy (Nat.le_of_ble_eq_true hd) (fun r h' hp => ⟨_, hp.1, k h' hp.2⟩)
theorem ax_cvR {i y nb w q ci dc : Nat} {fs as' rest : List Value} {x : Nat} {P : am_H → Prop} (hf : am_tab m pc = some (.invokevirtual i, 3, y, nb, w, .int 0)) (ho : h.1[q]? = some (.inr (ci, fs))) (hl : Nat.ble nb st.length = true) (hs : (st.take nb).reverse = .ref q :: as') (hr : st.drop nb = rest) (hc : Nat.ble (am_cs rest) 8 = true) (hm : Nat.ble (am_cs (.ref q :: as')) (am_mx y) = true) (hcn : (am_q ci).1 = am_cn y) (hci : Nat.blt ci vwCl.length = true) (hd : Nat.ble (dc + 1) d = true)
    (hy : am_X dc y 0 (am_ent y (.ref q :: as')) [] h (fun r h' => rR r x ∧ P h')) (k : ∀ h', P h' → am_X d m (pc + 3) ls (.ref x :: rest) h' Q) : am_X d m pc ls st h Q :=
  ax_callv hf (Nat.le_of_ble_eq_true hl) hs hr (Nat.le_of_ble_eq_true hc) (Nat.le_of_ble_eq_true hm) ho hcn (Nat.le_of_ble_eq_true hci) hy (Nat.le_of_ble_eq_true hd) (fun r h' hp => ⟨_, hp.1, k h' hp.2⟩)
theorem ax_cvV {i y nb w q ci dc : Nat} {fs as' rest : List Value} {P : am_H → Prop} (hf : am_tab m pc = some (.invokevirtual i, 3, y, nb, w, .int 0)) (ho : h.1[q]? = some (.inr (ci, fs))) (hl : Nat.ble nb st.length = true) (hs : (st.take nb).reverse = .ref q :: as') (hr : st.drop nb = rest) (hc : Nat.ble (am_cs rest) 8 = true) (hm : Nat.ble (am_cs (.ref q :: as')) (am_mx y) = true) (hcn : (am_q ci).1 = am_cn y) (hci : Nat.blt ci vwCl.length = true) (hd : Nat.ble (dc + 1) d = true)
    (hy : am_X dc y 0 (am_ent y (.ref q :: as')) [] h (fun r h' => rV r ∧ P h')) (k : ∀ h', P h' → am_X d m (pc + 3) ls rest h' Q) : am_X d m pc ls st h Q :=
  ax_callv hf (Nat.le_of_ble_eq_true hl) hs hr (Nat.le_of_ble_eq_true hc) (Nat.le_of_ble_eq_true hm) ho hcn (Nat.le_of_ble_eq_true hci) hy (Nat.le_of_ble_eq_true hd) (fun r h' hp => ⟨_, hp.1, k h' hp.2⟩)
theorem ax_csI {i y nb w dc : Nat} {as rest : List Value} {z : Int} {P : am_H → Prop} {v : Value} (hf : am_tab m pc = some (.invokestatic i, 3, y, nb, w, v)) (hv : v = .int 2 ∨ v = .int 3 ∨ v = .int 9) (hl : Nat.ble nb st.length = true) (hs : (st.take nb).reverse = as) (hr : st.drop nb = rest) (hc : Nat.ble (am_cs rest) 8 = true) (hm : Nat.ble (am_cs as) (am_mx y) = true) (hd : Nat.ble (dc + 1) d = true)
    (hy : am_X dc y 0 (am_ent y as) [] h (fun r h' => rI r z ∧ P h')) (k : ∀ h', P h' → am_X d m (pc + 3) ls (.int (iI z) :: rest) h' Q) : am_X d m pc ls st h Q :=
  ax_calls (kd := 0) hf hv (Nat.le_of_ble_eq_true hl) hs hr (Nat.le_of_ble_eq_true hc) (Nat.le_of_ble_eq_true hm) hy (Nat.le_of_ble_eq_true hd) (fun r h' hp => ⟨_, hp.1, k h' hp.2⟩)
theorem ax_csL {i y nb w dc : Nat} {as rest : List Value} {x : Int64} {P : am_H → Prop} {v : Value} (hf : am_tab m pc = some (.invokestatic i, 3, y, nb, w, v)) (hv : v = .int 2 ∨ v = .int 3 ∨ v = .int 9) (hl : Nat.ble nb st.length = true) (hs : (st.take nb).reverse = as) (hr : st.drop nb = rest) (hc : Nat.ble (am_cs rest) 8 = true) (hm : Nat.ble (am_cs as) (am_mx y) = true) (hd : Nat.ble (dc + 1) d = true)
    (hy : am_X dc y 0 (am_ent y as) [] h (fun r h' => rL r x ∧ P h')) (k : ∀ h', P h' → am_X d m (pc + 3) ls (.long x :: rest) h' Q) : am_X d m pc ls st h Q :=
  ax_calls (kd := 0) hf hv (Nat.le_of_ble_eq_true hl) hs hr (Nat.le_of_ble_eq_true hc) (Nat.le_of_ble_eq_true hm) hy (Nat.le_of_ble_eq_true hd) (fun r h' hp => ⟨_, hp.1, k h' hp.2⟩)
theorem ax_csV {i y nb w dc : Nat} {as rest : List Value} {P : am_H → Prop} {v : Value} (hf : am_tab m pc = some (.invokestatic i, 3, y, nb, w, v)) (hv : v = .int 2 ∨ v = .int 3 ∨ v = .int 9) (hl : Nat.ble nb st.length = true) (hs : (st.take nb).reverse = as) (hr : st.drop nb = rest) (hc : Nat.ble (am_cs rest) 8 = true) (hm : Nat.ble (am_cs as) (am_mx y) = true) (hd : Nat.ble (dc + 1) d = true)
    (hy : am_X dc y 0 (am_ent y as) [] h (fun r h' => rV r ∧ P h')) (k : ∀ h', P h' → am_X d m (pc + 3) ls rest h' Q) : am_X d m pc ls st h Q :=
  ax_calls (kd := 0) hf hv (Nat.le_of_ble_eq_true hl) hs hr (Nat.le_of_ble_eq_true hc) (Nat.le_of_ble_eq_true hm) hy (Nat.le_of_ble_eq_true hd) (fun r h' hp => ⟨_, hp.1, k h' hp.2⟩)
theorem ax_ciV {i y nb w q dc : Nat} {as' rest : List Value} {P : am_H → Prop} {v : Value} (hf : am_tab m pc = some (.invokespecial i, 3, y, nb, w, v)) (hv : v = .int 4 ∨ v = .int 5) (hl : Nat.ble nb st.length = true) (hs : (st.take nb).reverse = .ref q :: as') (hr : st.drop nb = rest) (hc : Nat.ble (am_cs rest) 8 = true) (hm : Nat.ble (am_cs (.ref q :: as')) (am_mx y) = true) (hd : Nat.ble (dc + 1) d = true)
    (hy : am_X dc y 0 (am_ent y (.ref q :: as')) [] h (fun r h' => rV r ∧ P h')) (k : ∀ h', P h' → am_X d m (pc + 3) ls rest h' Q) : am_X d m pc ls st h Q :=
  ax_calli hf hv (Nat.le_of_ble_eq_true hl) hs hr (Nat.le_of_ble_eq_true hc) (Nat.le_of_ble_eq_true hm) hy (Nat.le_of_ble_eq_true hd) (fun r h' hp => ⟨_, hp.1, k h' hp.2⟩)
end AXO
/-- sums over n places from a on -/
def sm (f : Int → Int) (a : Int) : Nat → Int
  | 0 => 0
  | n + 1 => f a + sm f (a + 1) n
