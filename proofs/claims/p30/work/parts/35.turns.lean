/-! ===== turns of simulations, commands of scripts ===== -/
section SIM
def trn (R : Int → Int) (r : Int) : Int → Int :=
  if r % 8 = 0 ∨ r % 8 = 1 then aAw R (r / 8 % 48) (if r / 8 / 48 % 3 = 0 then 0 else 1)
  else if r % 8 = 2 then aWe R (r / 8 % 48) (1 + r / 8 / 48 % 99)
  else if r % 8 = 3 then aFe R (1 + r / 8 % 47) (if r / 8 / 64 % 2 = 0 then 1 else 0)
  else if r % 8 = 4 then tel R
  else if r % 8 = 5 then (if r / 8 / 128 % 2 = 0 then aLi R (r / 8 % 12) (r / 8 / 16 % 5 - 2) else uZ R 269 (r / 8 % 2))
  else aSk R (r / 8 % 3)
theorem trn_inv {R : Int → Int} (i : inv R) (r : Int) : inv (trn R r) := by
  unfold trn
  split
  · exact aAw_inv i _ (by split <;> simp)
  · split
    · exact aWe_inv i _ _
    · split
      · exact aFe_inv i _ (by split <;> simp)
      · split
        · exact inv_te i
        · split
          · split
            · exact aLi_inv i _ _
            · exact inv_tr i (by omega)
          · exact aSk_inv i _
/-- the trust alone is set -/
theorem Mead_tr {h h' : am_H} {p : Nat} {R : Int → Int} {v : Int} (a : Mead h p R) (o : h'.1[p]? = some (.inr (3, (Mfs p R).set 8 (.int (iI v))))) (b : fr (fun q => q = p) h h') : Mead h' p (uZ R 269 v) := by
  obtain ⟨_, mw, ml, mi, ms⟩ := a
  refine ⟨Mo_eq o (Mfs_mk ?_ ?_ ?_ ?_ ?_ ?_ ?_ ?_), (mw.fr b (by omega)).eq fun j j1 j2 => uZ_n (by omega), (ml.fr b (by omega)).eq fun j j1 j2 => uZ_n (by omega), (mi.fr b (by omega)).eq fun j j1 j2 => uZ_n (by omega), (ms.fr b (by omega)).eq fun j j1 j2 => uZ_n (by omega)⟩
  · exact lB_congE fun j j1 j2 => (uZ_n (by omega)).symm
  · exact lB_congE fun j j1 j2 => (uZ_n (by omega)).symm
  · exact lB_congE fun j j1 j2 => (uZ_n (by omega)).symm
  · rw [uZ_n (by omega)]
  · rw [uZ_s]
  · rw [uZ_n (by omega)]
  · rw [uZ_n (by omega)]
  · rw [uZ_n (by omega)]
def scs (R : Int → Int) (g : Int) : Int × (Int → Int) :=
  if g / 10000 = 1 then (if g % 100 < 2 then (b2i (0 ≤ g / 100 % 100 ∧ g / 100 % 100 < 48), aAw R (g / 100 % 100) (if g % 10 = 1 then 1 else 0)) else (0, R))
  else if g / 10000 = 2 then (if g % 100 < 2 then (b2i ((1 ≤ g / 100 % 100 ∧ g / 100 % 100 < 48) ∧ ((if g % 10 = 1 then 1 else 0 : Int) = 0 ∨ R (144 + g / 100 % 100) = 1 ∨ blk R ≤ 11)), aFe R (g / 100 % 100) (if g % 10 = 1 then 1 else 0)) else (0, R))
  else if g / 10000 = 3 then (if g / 10 % 10 = 0 then (b2i ((0 ≤ g / 100 % 100 ∧ g / 100 % 100 < blk R) ∧ (-2 ≤ g % 10 - 2 ∧ g % 10 - 2 ≤ 2)), aLi R (g / 100 % 100) (g % 10 - 2)) else (0, R))
  else if g / 10000 = 4 then (if g / 100 % 100 = 0 ∧ g % 100 = 0 then (1, tel R) else (0, R))
  else if g / 10000 = 5 then (if g / 100 % 100 = 0 ∧ g / 10 % 10 = 0 then (b2i ((0 ≤ g % 10 ∧ g % 10 < 3) ∧ (R 192 = 1 ∨ R 269 = 0)), aSk R (g % 10)) else (0, R))
  else if g / 10000 = 6 then (b2i (R 217 ≤ g % 10000), R)
  else if g / 10000 = 7 then (b2i (g / 10 % 10 = 0 ∧ (0 ≤ g / 100 % 100 ∧ g / 100 % 100 < 48) ∧ R (218 + g / 100 % 100) = g % 10), R)
  else if g / 10000 = 8 then (b2i ((0 ≤ g / 100 % 100 ∧ g / 100 % 100 < blk R) ∧ g % 100 ≤ fro R (g / 100 % 100 + 1) - fro R (g / 100 % 100)), R)
  else if g / 10000 = 9 then (b2i (g / 100 % 100 = 0 ∧ R 268 ≤ g % 100), R)
  else (0, R)
theorem scs_01 {R : Int → Int} {g : Int} : (scs R g).1 = 0 ∨ (scs R g).1 = 1 := by
  unfold scs
  repeat' split
  all_goals first | exact b2i_in | exact Or.inl rfl | exact Or.inr rfl
theorem scs_inv {R : Int → Int} (i : inv R) (g : Int) : inv (scs R g).2 := by
  unfold scs
  repeat' split
  all_goals first | exact i | exact inv_te i | exact aSk_inv i _ | exact aLi_inv i _ _ | exact aAw_inv i _ (Or.inl rfl) | exact aAw_inv i _ (Or.inr rfl) | exact aFe_inv i _ (Or.inl rfl) | exact aFe_inv i _ (Or.inr rfl) | exact aAw_inv i _ (by split <;> simp) | exact aFe_inv i _ (by split <;> simp)
end SIM
