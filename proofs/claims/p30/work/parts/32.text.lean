/-! ===== texts ===== -/
section TXT
/-- the sign at place i of a text T of L signs -/
def sg (T : Int → Int) (L i : Int) : Int := if 0 ≤ i ∧ i < L then T i else -1
def dgt (T : Int → Int) (L i : Int) : Int := if 48 ≤ sg T L i ∧ sg T L i ≤ 57 then sg T L i - 48 else -1
def rd2 (T : Int → Int) (L p lo hi : Int) : Int × Int :=
  if dgt T L p = -1 ∨ hi < 10 * dgt T L p ∨ 10 * dgt T L p + 9 < lo then (-1, p)
  else if dgt T L (p + 1) = -1 ∨ ¬ (lo ≤ 10 * dgt T L p + dgt T L (p + 1) ∧ 10 * dgt T L p + dgt T L (p + 1) ≤ hi) then (-1, p + 1)
  else (10 * dgt T L p + dgt T L (p + 1), p + 2)
def rd1 (T : Int → Int) (L p hi : Int) : Int × Int := if dgt T L p = -1 ∨ hi < dgt T L p then (-1, p) else (dgt T L p, p + 1)
theorem dgt_y {T : Int → Int} {L i : Int} (h1 : 48 ≤ sg T L i) (h2 : sg T L i ≤ 57) : dgt T L i = sg T L i - 48 := by unfold dgt; rw [if_pos ⟨h1, h2⟩]
theorem dgt_n {T : Int → Int} {L i : Int} (h : ¬ (48 ≤ sg T L i ∧ sg T L i ≤ 57)) : dgt T L i = -1 := by unfold dgt; rw [if_neg h]
/-- the first number of a command with letter c, read from place p on -/
def rdF (T : Int → Int) (L c p : Int) : Int × Int :=
  if c = 97 ∨ c = 99 ∨ c = 119 then rd2 T L p 0 47 else if c = 102 then rd2 T L p 1 47 else if c = 108 then rd2 T L p 0 11 else if c = 115 then rd2 T L p 1 11 else if c = 107 then rd1 T L p 2 else (0, p)
def rdS (T : Int → Int) (L c p : Int) : Int × Int := if c = 119 then rd2 T L p 1 99 else if c = 108 then rd1 T L p 4 else (0, p)
def isL (c : Int) : Prop := c = 97 ∨ c = 99 ∨ c = 119 ∨ c = 102 ∨ c = 108 ∨ c = 115 ∨ c = 110 ∨ c = 107
/-- 1 if the command at p is a right one, and the place behind it; else 0 and the place of the error -/
def rdc (T : Int → Int) (L p : Int) : Int × Int :=
  if sg T L p = 97 ∨ sg T L p = 99 ∨ sg T L p = 119 ∨ sg T L p = 102 ∨ sg T L p = 108 ∨ sg T L p = 115 ∨ sg T L p = 110 ∨ sg T L p = 107 then
    (if (rdF T L (sg T L p) (p + 1)).1 = -1 then (0, (rdF T L (sg T L p) (p + 1)).2)
    else if (rdS T L (sg T L p) (rdF T L (sg T L p) (p + 1)).2).1 = -1 then (0, (rdS T L (sg T L p) (rdF T L (sg T L p) (p + 1)).2).2)
    else (1, (rdS T L (sg T L p) (rdF T L (sg T L p) (p + 1)).2).2))
  else (0, p)
/-- the numbers of the command at p -/
def fiN (T : Int → Int) (L p : Int) : Int := (rdF T L (sg T L p) (p + 1)).1
def seN (T : Int → Int) (L p : Int) : Int := (rdS T L (sg T L p) (rdF T L (sg T L p) (p + 1)).2).1
theorem rd2_sp {T : Int → Int} {L p lo hi : Int} : p ≤ (rd2 T L p lo hi).2 ∧ (rd2 T L p lo hi).2 ≤ p + 2 ∧ -1 ≤ (rd2 T L p lo hi).1 ∧ (rd2 T L p lo hi).1 ≤ 99 := by
  have d : ∀ q, -1 ≤ dgt T L q ∧ dgt T L q ≤ 9 := fun q => by unfold dgt; split <;> omega
  have d1 := d p
  have d2 := d (p + 1)
  unfold rd2
  split
  · exact ⟨Int.le_refl _, by show p ≤ p + 2; omega, by show (-1 : Int) ≤ -1; omega, by show (-1 : Int) ≤ 99; omega⟩
  · split
    · exact ⟨by show p ≤ p + 1; omega, by show p + 1 ≤ p + 2; omega, by show (-1 : Int) ≤ -1; omega, by show (-1 : Int) ≤ 99; omega⟩
    · refine ⟨by show p ≤ p + 2; omega, Int.le_refl _, ?_, ?_⟩
      · show -1 ≤ 10 * dgt T L p + dgt T L (p + 1); omega
      · show 10 * dgt T L p + dgt T L (p + 1) ≤ 99; omega
theorem rd1_sp {T : Int → Int} {L p hi : Int} : p ≤ (rd1 T L p hi).2 ∧ (rd1 T L p hi).2 ≤ p + 2 ∧ -1 ≤ (rd1 T L p hi).1 ∧ (rd1 T L p hi).1 ≤ 99 := by
  have d : ∀ q, -1 ≤ dgt T L q ∧ dgt T L q ≤ 9 := fun q => by unfold dgt; split <;> omega
  have d1 := d p
  unfold rd1
  split
  · exact ⟨Int.le_refl _, by show p ≤ p + 2; omega, by show (-1 : Int) ≤ -1; omega, by show (-1 : Int) ≤ 99; omega⟩
  · exact ⟨by show p ≤ p + 1; omega, by show p + 1 ≤ p + 2; omega, by show -1 ≤ dgt T L p; omega, by show dgt T L p ≤ 99; omega⟩
theorem rdF_sp {T : Int → Int} {L c p : Int} : p ≤ (rdF T L c p).2 ∧ (rdF T L c p).2 ≤ p + 2 ∧ -1 ≤ (rdF T L c p).1 ∧ (rdF T L c p).1 ≤ 99 := by
  unfold rdF
  repeat' split
  all_goals first | exact rd2_sp | exact rd1_sp | exact ⟨Int.le_refl _, by show p ≤ p + 2; omega, by show (-1 : Int) ≤ 0; omega, by show (0 : Int) ≤ 99; omega⟩
theorem rdS_sp {T : Int → Int} {L c p : Int} : p ≤ (rdS T L c p).2 ∧ (rdS T L c p).2 ≤ p + 2 ∧ -1 ≤ (rdS T L c p).1 ∧ (rdS T L c p).1 ≤ 99 := by
  unfold rdS
  repeat' split
  all_goals first | exact rd2_sp | exact rd1_sp | exact ⟨Int.le_refl _, by show p ≤ p + 2; omega, by show (-1 : Int) ≤ 0; omega, by show (0 : Int) ≤ 99; omega⟩
/-- the text object at t -/
def Tx (h : am_H) (t : Nat) (T : Int → Int) (L pos : Int) (le fi se : Int) : Prop := h.1[t]? = some (.inr (8, [.ref (t + 1), .int (iI L), .int (iI pos), .int (iI le), .int (iI fi), .int (iI se)])) ∧ (0 ≤ L ∧ L ≤ 120) ∧ ∃ g, oA 1 h (t + 1) 120 g ∧ ∀ j, 0 ≤ j → j < L → g j = T j ∧ 0 ≤ T j ∧ T j ≤ 255
theorem sg_in {T : Int → Int} {L i : Int} (h : ∀ j, 0 ≤ j → j < L → 0 ≤ T j ∧ T j ≤ 255) : -1 ≤ sg T L i ∧ sg T L i ≤ 255 := by
  unfold sg
  split
  · rename_i c; have := h i c.1 c.2; omega
  · omega
theorem Tx.mv {h h' : am_H} {t : Nat} {T : Int → Int} {L pos le fi se : Int} {S : Nat → Prop} (a : Tx h t T L pos le fi se) (b : fr S h h') (h1 : ¬ S t) (h2 : ¬ S (t + 1)) : Tx h' t T L pos le fi se := by
  obtain ⟨o, l, g, g1, g2⟩ := a
  exact ⟨b.at h1 o, l, g, g1.fr b h2, g2⟩
/-- the object alone changed -/
theorem Tx.ob {h h' : am_H} {t : Nat} {T : Int → Int} {L pos le fi se pos' le' fi' se' : Int} (a : Tx h t T L pos le fi se) (o : h'.1[t]? = some (.inr (8, [.ref (t + 1), .int (iI L), .int (iI pos'), .int (iI le'), .int (iI fi'), .int (iI se')]))) (b : fr (fun q => q = t) h h') : Tx h' t T L pos' le' fi' se' := by
  obtain ⟨_, l, g, g1, g2⟩ := a
  exact ⟨o, l, g, g1.fr b (by omega), g2⟩
theorem Tx.in {h : am_H} {t : Nat} {T : Int → Int} {L pos le fi se : Int} (a : Tx h t T L pos le fi se) (i : Int) : -1 ≤ sg T L i ∧ sg T L i ≤ 255 := by
  obtain ⟨_, l, g, g1, g2⟩ := a
  exact sg_in fun j j1 j2 => (g2 j j1 j2).2
end TXT
