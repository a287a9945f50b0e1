/-! ===== texts: errors; commands are obeyed ===== -/
section ERR
theorem rdc_sp {T : Int → Int} {L p : Int} : ((rdc T L p).1 = 0 ∨ (rdc T L p).1 = 1) ∧ p ≤ (rdc T L p).2 ∧ (rdc T L p).2 ≤ p + 5 ∧ ((rdc T L p).1 = 1 → p < (rdc T L p).2 ∧ (sg T L p = 97 ∨ sg T L p = 99 ∨ sg T L p = 119 ∨ sg T L p = 102 ∨ sg T L p = 108 ∨ sg T L p = 115 ∨ sg T L p = 110 ∨ sg T L p = 107)) := by
  have a := rdF_sp (T := T) (L := L) (c := sg T L p) (p := p + 1)
  have b := rdS_sp (T := T) (L := L) (c := sg T L p) (p := (rdF T L (sg T L p) (p + 1)).2)
  unfold rdc
  split
  · rename_i hl
    split
    · exact ⟨Or.inl rfl, by show p ≤ (rdF T L (sg T L p) (p + 1)).2; omega, by show (rdF T L (sg T L p) (p + 1)).2 ≤ _; omega, fun z => absurd (show (0 : Int) = 1 from z) (by decide)⟩
    · split
      · exact ⟨Or.inl rfl, by show p ≤ (rdS T L (sg T L p) (rdF T L (sg T L p) (p + 1)).2).2; omega, by show (rdS T L (sg T L p) (rdF T L (sg T L p) (p + 1)).2).2 ≤ _; omega, fun z => absurd (show (0 : Int) = 1 from z) (by decide)⟩
      · exact ⟨Or.inr rfl, by show p ≤ (rdS T L (sg T L p) (rdF T L (sg T L p) (p + 1)).2).2; omega, by show (rdS T L (sg T L p) (rdF T L (sg T L p) (p + 1)).2).2 ≤ _; omega, fun _ => ⟨by show p < (rdS T L (sg T L p) (rdF T L (sg T L p) (p + 1)).2).2; omega, hl⟩⟩
  · exact ⟨Or.inl rfl, Int.le_refl _, by show p ≤ p + 5; omega, fun z => absurd (show (0 : Int) = 1 from z) (by decide)⟩
/-- the place of the first error from p on, -1 without one -/
def epl (T : Int → Int) (L : Int) : Nat → Int → Int
  | 0, _ => -1
  | n + 1, p => if p < L then (if (rdc T L p).1 = 0 then (rdc T L p).2 else epl T L n (rdc T L p).2) else -1
def errP (T : Int → Int) (L : Int) : Int := if sg T L 0 = 77 then epl T L 120 1 else 0
theorem epl_in {T : Int → Int} {L : Int} (hL : L ≤ 120) : ∀ (n : Nat) (p : Int), 0 ≤ p → -1 ≤ epl T L n p ∧ epl T L n p ≤ 130
  | 0, p, h => ⟨Int.le_refl _, by show (-1 : Int) ≤ 130; omega⟩
  | n + 1, p, h => by
    have a := rdc_sp (T := T) (L := L) (p := p)
    unfold epl
    split
    · split
      · omega
      · exact epl_in hL n _ (by omega)
    · omega
/-- what a command of a text does -/
def cmd (R : Int → Int) (c f s : Int) : Int × (Int → Int) :=
  if c = 97 then (b2i (0 ≤ f ∧ f < 48), aAw R f 1) else if c = 99 then (b2i (0 ≤ f ∧ f < 48), aAw R f 0)
  else if c = 119 then (b2i ((0 ≤ f ∧ f < 48) ∧ (1 ≤ s ∧ s ≤ 99)), aWe R f s)
  else if c = 102 then (b2i ((1 ≤ f ∧ f < 48) ∧ ((1 : Int) = 0 ∨ R (144 + f) = 1 ∨ blk R ≤ 11)), aFe R f 1)
  else if c = 108 then (b2i ((0 ≤ f ∧ f < blk R) ∧ (-2 ≤ s - 2 ∧ s - 2 ≤ 2)), aLi R f (s - 2))
  else if c = 115 then (b2i (1 ≤ f ∧ f ≤ 11), aSp R f) else if c = 110 then (1, tel R)
  else if c = 107 then (b2i ((0 ≤ f ∧ f < 3) ∧ (R 192 = 1 ∨ R 269 = 0)), aSk R f) else (0, R)
theorem cmd_inv {R : Int → Int} (i : inv R) (c f s : Int) : inv (cmd R c f s).2 := by
  unfold cmd
  repeat' split
  · exact aAw_inv i f (Or.inr rfl)
  · exact aAw_inv i f (Or.inl rfl)
  · exact aWe_inv i f s
  · exact aFe_inv i f (Or.inr rfl)
  · exact aLi_inv i f (s - 2)
  · exact aSp_inv i f
  · exact inv_te i
  · exact aSk_inv i f
  · exact i
theorem cmd_01 {R : Int → Int} {c f s : Int} : (cmd R c f s).1 = 0 ∨ (cmd R c f s).1 = 1 := by
  unfold cmd
  repeat' split
  all_goals first | exact b2i_in | exact Or.inl rfl | exact Or.inr rfl
/-- what a text does from p on: how many commands were left out, and the meadow -/
def ldr (T : Int → Int) (L : Int) : Nat → Int → Int → (Int → Int) → Int × (Int → Int)
  | 0, _, lo, R => (lo, R)
  | n + 1, p, lo, R => if (rdc T L p).1 = 1 then ldr T L n (rdc T L p).2 (if (cmd R (sg T L p) (fiN T L p) (seN T L p)).1 = 1 then lo else lo + 1) (cmd R (sg T L p) (fiN T L p) (seN T L p)).2 else (lo, R)
end ERR
