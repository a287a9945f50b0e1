/-! ===== the class: texts are loaded ===== -/
section LOD
/-- the meadow and the text changed -/
theorem Cls_ht {h h' : am_H} {R R' : Int → Int} {S : Int → Int → Int} {c : Int} {G : Nat → Int → Int} {b : Int → Int} {T T' : Int → Int} {L L' : Int} (a : Cls h (R, S, c, G, b, T, L)) (F : fr (fun q => HS 1 q ∨ q = 118) h h') (a2 : Herd h' 1 R') (hT : ∃ pos le fi se, Tx h' 118 T' L' pos le fi se) : Cls h' (R', S, c, G, b, T', L') ∧ fr FC h h' := by
  obtain ⟨o, hH, ⟨R2, hH2⟩, hF, hS, hP, hU, hHi, hSl, _⟩ := a
  exact ⟨⟨F.at (by unfold HS; omega) o, a2, ⟨R2, hH2.mv F (fun x x1 x2 => by unfold HS; omega)⟩, hF.fr F (fun x x1 x2 => by unfold HS; omega), hS.fr F (fun x x1 x2 => by unfold HS; omega), hP.mv F (fun x x1 x2 => by unfold HS; omega), hU.mv F (by unfold HS; omega) (by unfold HS; omega), hHi.mv F (fun q hq => by unfold HiS at hq; unfold HS; omega), hSl.mv F (fun q hq => by unfold SlS at hq; unfold HS; omega), hT⟩, F.mono (fun q e => by unfold HS at e; unfold FC; omega)⟩
theorem cmd_cong {R : Int → Int} {c f f' s s' : Int} (h1 : ¬ c = 110 → f = f') (h2 : c = 119 ∨ c = 108 → s = s') : cmd R c f s = cmd R c f' s' := by
  unfold cmd
  by_cases a1 : c = 97
  · rw [if_pos a1, if_pos a1, h1 (by omega)]
  rw [if_neg a1, if_neg a1]
  by_cases a2 : c = 99
  · rw [if_pos a2, if_pos a2, h1 (by omega)]
  rw [if_neg a2, if_neg a2]
  by_cases a3 : c = 119
  · rw [if_pos a3, if_pos a3, h1 (by omega), h2 (by omega)]
  rw [if_neg a3, if_neg a3]
  by_cases a4 : c = 102
  · rw [if_pos a4, if_pos a4, h1 (by omega)]
  rw [if_neg a4, if_neg a4]
  by_cases a5 : c = 108
  · rw [if_pos a5, if_pos a5, h1 (by omega), h2 (by omega)]
  rw [if_neg a5, if_neg a5]
  by_cases a6 : c = 115
  · rw [if_pos a6, if_pos a6, h1 (by omega)]
  rw [if_neg a6, if_neg a6]
  by_cases a7 : c = 110
  · rw [if_pos a7, if_pos a7]
  rw [if_neg a7, if_neg a7, h1 a7]
/-- a number that is read is small -/
theorem fiN_in {T : Int → Int} {L p : Int} : -1 ≤ fiN T L p ∧ fiN T L p ≤ 99 := (rdF_sp (T := T) (L := L) (c := sg T L p) (p := p + 1)).2.2
theorem seN_in {T : Int → Int} {L p : Int} : -1 ≤ seN T L p ∧ seN T L p ≤ 99 := (rdS_sp (T := T) (L := L) (c := sg T L p) (p := (rdF T L (sg T L p) (p + 1)).2)).2.2
theorem rdc_L {T : Int → Int} {L p : Int} (h : (rdc T L p).1 = 1) : p < L := by
  have a := (rdc_sp (T := T) (L := L) (p := p)).2.2.2 h
  by_cases c : p < L
  · exact c
  · have e : sg T L p = -1 := by unfold sg; rw [if_neg (by omega)]
    rw [e] at a
    omega
end LOD
