/-! ===== what texts, scripts and simulations ask for: the class's herder ===== -/
theorem b2i_z {c : Prop} [Decidable c] : b2i c = 0 ↔ ¬ c := by unfold b2i; split <;> simp_all
theorem b2i_nz {c : Prop} [Decidable c] : ¬ b2i c = 0 ↔ c := by unfold b2i; split <;> simp_all
theorem b2i_inI {c : Prop} [Decidable c] : inI (b2i c) := by rcases b2i_in (c := c) with e | e <;> rw [e] <;> exact ⟨by decide, by decide⟩
def aWe (R : Int → Int) (r w : Int) : Int → Int := if (0 ≤ r ∧ r < 48) ∧ (1 ≤ w ∧ w ≤ 99) then uZ R r w else R
def aAw (R : Int → Int) (r y : Int) : Int → Int := if 0 ≤ r ∧ r < 48 then uZ R (48 + r) y else R
def aFe (R : Int → Int) (r y : Int) : Int → Int := if (1 ≤ r ∧ r < 48) ∧ (y = 0 ∨ R (144 + r) = 1 ∨ blk R ≤ 11) then sfe R r y else R
def aSp (R : Int → Int) (n : Int) : Int → Int := if 1 ≤ n ∧ n ≤ 11 then spr R n else R
def aLi (R : Int → Int) (k v : Int) : Int → Int := if (0 ≤ k ∧ k < blk R) ∧ (-2 ≤ v ∧ v ≤ 2) then uZ R (205 + k) v else R
def aSk (R : Int → Int) (w : Int) : Int → Int := if (0 ≤ w ∧ w < 3) ∧ (R 192 = 1 ∨ R 269 = 0) then skd R w else R
theorem aWe_inv {R : Int → Int} (i : inv R) (r w : Int) : inv (aWe R r w) := by
  unfold aWe; split
  · rename_i c; exact inv_wt i c.1.1 c.1.2 c.2.1 c.2.2
  · exact i
theorem aAw_inv {R : Int → Int} (i : inv R) (r : Int) {y : Int} (hy : y = 0 ∨ y = 1) : inv (aAw R r y) := by
  unfold aAw; split
  · rename_i c; exact inv_aw i c.1 c.2 hy
  · exact i
theorem aFe_inv {R : Int → Int} (i : inv R) (r : Int) {y : Int} (hy : y = 0 ∨ y = 1) : inv (aFe R r y) := by
  unfold aFe; split
  · rename_i c; exact inv_fe i c.1.1 c.1.2 hy c.2
  · exact i
theorem aSp_inv {R : Int → Int} (i : inv R) (n : Int) : inv (aSp R n) := by
  unfold aSp; split
  · rename_i c; exact inv_sp i c.1 c.2
  · exact i
theorem aLi_inv {R : Int → Int} (i : inv R) (k v : Int) : inv (aLi R k v) := by
  unfold aLi; split
  · rename_i c; have := i.b12; exact inv_li i c.1.1 (by omega) c.2.1 c.2.2
  · exact i
theorem aSk_inv {R : Int → Int} (i : inv R) (w : Int) : inv (aSk R w) := by
  unfold aSk; split
  · exact inv_sk i w
  · exact i
/-- a herder at q: its meadow q + 1 to q + 5, its search q + 6 to q + 8 -/
def Herd (h : am_H) (q : Nat) (R : Int → Int) : Prop := h.1[q]? = some (.inr (1, [.ref (q + 1), .ref (q + 6)])) ∧ Mead h (q + 1) R ∧ Srch h (q + 6)
def HS (q x : Nat) : Prop := q < x ∧ x ≤ q + 8
theorem Herd.mv {h h' : am_H} {q : Nat} {R : Int → Int} {S : Nat → Prop} (a : Herd h q R) (b : fr S h h') (hq : ∀ x, q ≤ x → x ≤ q + 8 → ¬ S x) : Herd h' q R :=
  ⟨b.at (hq q (by omega) (by omega)) a.1, a.2.1.fr b (fun x x1 x2 => hq x (by omega) (by omega)), a.2.2.fr b (fun x x1 x2 => hq x (by omega) (by omega))⟩
/-- the meadow alone changed -/
theorem Herd.me {h h' : am_H} {q : Nat} {R R' : Int → Int} (a : Herd h q R) (m : Mead h' (q + 1) R') (b : fr (MS (q + 1)) h h') : Herd h' q R' :=
  ⟨b.at (by unfold MS; omega) a.1, m, a.2.2.fr b (fun x x1 x2 => by unfold MS; omega)⟩
theorem MS_HS {h h' : am_H} {q : Nat} (b : fr (MS (q + 1)) h h') : fr (HS q) h h' := b.mono fun x hx => by unfold MS at hx; unfold HS; omega
section HRD
theorem c_35 {h : am_H} {q : Nat} {R : Int → Int} (hH : Herd h q R) (i : inv R) {z : Int} (hz : inI z) : am_X 54 35 0 (am_ent 35 [.ref q, .int (iI z)]) [] h (fun r h' => rI r (b2i ((0 ≤ z ∧ z < 3) ∧ (R 192 = 1 ∨ R 269 = 0))) ∧ Herd h' q (aSk R z) ∧ fr (HS q) h h') := by
  show am_X 54 35 0 [.ref q, .int (iI z)] [] h _
  refine ax_iload_n f35_0 rfl ?_
  refine ax_csI (rest := []) f35_1 (Or.inr (Or.inl rfl)) rfl rfl rfl rfl rfl rfl (c_139 hz) ?_
  intro _ e_
  obtain rfl := e_.symm
  clear e_
  refine ax_if_eq f35_4 rfl b2i_inI (fun q4 => ?_) (fun q4 => ?_)
  · refine ax_iconst f35_17 ?_
    refine ax_ireturn f35_18 rfl rfl ?_
    have hc : ¬ ((0 ≤ z ∧ z < 3) ∧ (R 192 = 1 ∨ R 269 = 0)) := fun x => b2i_z.mp q4 x.1
    exact ⟨rI_of (b2i_f hc).symm, by unfold aSk; rw [if_neg hc]; exact hH, fr_rf⟩
  · refine ax_aload_n f35_7 rfl ?_
    refine ax_getf f35_8 hH.1 rfl ?_
    refine ax_cvI (rest := []) f35_11 hH.2.1.1 rfl rfl rfl rfl rfl rfl rfl rfl (c_56 hH.2.1 i.td i.tr) ?_
    intro _ e_
    obtain rfl := e_.symm
    clear e_
    refine ax_if_ne f35_14 rfl b2i_inI (fun q14 => ?_) (fun q14 => ?_)
    · refine ax_aload_n f35_19 rfl ?_
      refine ax_getf f35_20 hH.1 rfl ?_
      refine ax_aload_n f35_23 rfl ?_
      refine ax_getf f35_24 hH.1 rfl ?_
      refine ax_iload_n f35_27 rfl ?_
      refine ax_cvV (rest := []) f35_28 (hH.2.2.1.choose_spec.choose_spec.choose_spec) rfl rfl rfl rfl rfl rfl rfl rfl (c_81 hH.2.2 hH.2.1 i (by omega) (by have := b2i_nz.mp q4; omega)) ?_
      rintro h9 ⟨s9, g9, f9⟩
      have o9 := f9.at (q := q) (by omega) hH.1
      have m9 := hH.2.1.fr f9 (fun x x1 x2 => by omega)
      refine ax_aload_n f35_31 rfl ?_
      refine ax_getf f35_32 o9 rfl ?_
      refine ax_aload_n f35_35 rfl ?_
      refine ax_getf f35_36 o9 rfl ?_
      refine ax_getf f35_39 s9 rfl ?_
      refine ax_aload_n f35_42 rfl ?_
      refine ax_getf f35_43 o9 rfl ?_
      refine ax_getf f35_46 s9 rfl ?_
      refine ax_cvV (rest := []) f35_49 m9.1 rfl rfl rfl rfl rfl rfl rfl rfl (c_64 m9 (sek_sp i.ff i.b12 _).1 i.1.2.1 i.1.2.2.1) ?_
      rintro h8 ⟨m8, f8⟩
      refine ax_iconst f35_52 ?_
      refine ax_ireturn f35_53 rfl rfl ?_
      have hc : (0 ≤ z ∧ z < 3) ∧ (R 192 = 1 ∨ R 269 = 0) := ⟨b2i_nz.mp q4, b2i_nz.mp q14⟩
      refine ⟨rI_of (b2i_t hc).symm, ?_, (f9.mono (fun x e => by unfold HS; omega)).trans (MS_HS f8)⟩
      unfold aSk
      rw [if_pos hc]
      exact ⟨f8.at (by unfold MS; omega) o9, m8, (Sob.z s9 g9).fr f8 (fun x x1 x2 => by unfold MS; omega)⟩
    · refine ax_iconst f35_17 ?_
      refine ax_ireturn f35_18 rfl rfl ?_
      have hc : ¬ ((0 ≤ z ∧ z < 3) ∧ (R 192 = 1 ∨ R 269 = 0)) := fun x => q14 (by rw [b2i_t x.2]; decide)
      exact ⟨rI_of (b2i_f hc).symm, by unfold aSk; rw [if_neg hc]; exact hH, fr_rf⟩
end HRD
