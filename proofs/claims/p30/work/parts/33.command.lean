/-! ===== texts: commands, the class ===== -/
section TXC
theorem ax_nmI {d m pc : Nat} {ls st : List Value} {h : am_H} {Q : am_R → am_H → Prop} {x y : Int} (e : x = y) (k : am_X d m pc ls (.int (iI y) :: st) h Q) : am_X d m pc ls (.int (iI x) :: st) h Q := e ▸ k
theorem rdc_s {T : Int → Int} {L p : Int} (hl : sg T L p = 97 ∨ sg T L p = 99 ∨ sg T L p = 119 ∨ sg T L p = 102 ∨ sg T L p = 108 ∨ sg T L p = 115 ∨ sg T L p = 110 ∨ sg T L p = 107) (h1 : ¬ sg T L p = 119) (h2 : ¬ sg T L p = 108) : rdc T L p = (b2i (¬ (rdF T L (sg T L p) (p + 1)).1 = -1), (rdF T L (sg T L p) (p + 1)).2) := by
  have e : ∀ q, rdS T L (sg T L p) q = (0, q) := fun q => by unfold rdS; rw [if_neg h1, if_neg h2]
  unfold rdc
  rw [if_pos hl]
  by_cases c : (rdF T L (sg T L p) (p + 1)).1 = -1
  · rw [if_pos c, b2i_f (fun z => z c)]
  · rw [if_neg c, e, b2i_t c]; rfl
theorem rdc_w {T : Int → Int} {L p : Int} (hl : sg T L p = 97 ∨ sg T L p = 99 ∨ sg T L p = 119 ∨ sg T L p = 102 ∨ sg T L p = 108 ∨ sg T L p = 115 ∨ sg T L p = 110 ∨ sg T L p = 107) : rdc T L p = if (rdF T L (sg T L p) (p + 1)).1 = -1 then (0, (rdF T L (sg T L p) (p + 1)).2) else if (rdS T L (sg T L p) (rdF T L (sg T L p) (p + 1)).2).1 = -1 then (0, (rdS T L (sg T L p) (rdF T L (sg T L p) (p + 1)).2).2) else (1, (rdS T L (sg T L p) (rdF T L (sg T L p) (p + 1)).2).2) := by
  unfold rdc
  rw [if_pos hl]
theorem rdc_0 {T : Int → Int} {L p : Int} (hl : ¬ (sg T L p = 97 ∨ sg T L p = 99 ∨ sg T L p = 119 ∨ sg T L p = 102 ∨ sg T L p = 108 ∨ sg T L p = 115 ∨ sg T L p = 110 ∨ sg T L p = 107)) : rdc T L p = (0, p) := by
  unfold rdc
  rw [if_neg hl]
end TXC
