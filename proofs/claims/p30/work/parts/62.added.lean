/-! ===== searches, added up: in whole numbers ===== -/
section SAD
theorem sr_c {R : Int → Int} {w : Int} {f : Nat} {a b l lk m ls : Int} {F : Int → Int} (e1 : ¬ l = bok R a b) (e2 : ¬ b - a = 1) (em : hlf (vl R w) a b = m) (es : bok R a m - fld R a m = ls) : sr R w (f + 1) a b l lk F = if ls < l then sr R w f m b (l - ls) (if 0 < ls then sr R w f a m ls (lk + 1) F else (lk + 1, F)).1 (if 0 < ls then sr R w f a m ls (lk + 1) F else (lk + 1, F)).2 else (if 0 < ls then sr R w f a m ls (lk + 1) F else (lk + 1, F)) := by
  rw [sr_step R w f a b l lk F e1 e2, em, es]
/-- the fuel says nothing -/
theorem sr_fu (R : Int → Int) (w : Int) : ∀ (f f' : Nat) (a b l lk : Int) (F : Int → Int), a < b → b - a ≤ f → b - a ≤ f' → sr R w f a b l lk F = sr R w f' a b l lk F
  | 0, _, a, b, l, lk, F, h1, h2, h3 => by omega
  | f + 1, 0, a, b, l, lk, F, h1, h2, h3 => by omega
  | f + 1, f' + 1, a, b, l, lk, F, h1, h2, h3 => by
    by_cases c1 : l = bok R a b
    · rw [sr_1 c1, sr_1 c1]
    by_cases c2 : b - a = 1
    · rw [sr_2 c1 c2, sr_2 c1 c2]
    obtain ⟨m, em⟩ : ∃ m, hlf (vl R w) a b = m := ⟨_, rfl⟩
    obtain ⟨ls, es⟩ : ∃ ls, bok R a m - fld R a m = ls := ⟨_, rfl⟩
    have hm := hlf_in (vl R w) (a := a) (b := b) (by omega)
    rw [em] at hm
    rw [sr_c c1 c2 em es, sr_c c1 c2 em es, sr_fu R w f f' a m ls (lk + 1) F hm.1 (by omega) (by omega)]
    split
    · exact sr_fu R w f f' m b _ _ _ hm.2 (by omega) (by omega)
    · rfl
/-- the looks of a search of rows a to b, and what it finds -/
def slk (R : Int → Int) (w : Int) (f : Nat) (a b l : Int) : Int := (sr R w f a b l 0 (fun _ => 0)).1
def sfd (R : Int → Int) (w : Int) (f : Nat) (a b l j : Int) : Int := (sr R w f a b l 0 (fun _ => 0)).2 j
theorem f01_0 : f01 (fun _ => 0) := fun _ _ _ => Or.inl rfl
theorem sfd_out {R : Int → Int} {w : Int} {f : Nat} {a b l j : Int} (h1 : a < b) (h2 : b - a ≤ f) (h3 : j < a ∨ b ≤ j) : sfd R w f a b l j = 0 := (sr_sp R w f a b l 0 _ h1 h2 f01_0).2.1 j h3
theorem sr_ad (R : Int → Int) (w : Int) : ∀ (f : Nat) (a b l lk : Int) (F : Int → Int), a < b → b - a ≤ f → (∀ j, a ≤ j → j < b → F j = 0) → (sr R w f a b l lk F).1 = lk + slk R w f a b l ∧ ∀ j, (sr R w f a b l lk F).2 j = F j + sfd R w f a b l j
  | 0, a, b, l, lk, F, h1, h2, h3 => by omega
  | f + 1, a, b, l, lk, F, h1, h2, h3 => by
    unfold slk sfd
    by_cases c1 : l = bok R a b
    · rw [sr_1 c1, sr_1 c1]
      refine ⟨(Int.add_zero _).symm, fun j => ?_⟩
      show (if a ≤ j ∧ j < b then 1 else F j) = F j + (if a ≤ j ∧ j < b then 1 else 0)
      split
      · rename_i z
        rw [h3 j z.1 z.2]; rfl
      · omega
    by_cases c2 : b - a = 1
    · rw [sr_2 c1 c2, sr_2 c1 c2]
      refine ⟨by show lk + 1 = lk + (0 + 1); omega, fun j => ?_⟩
      by_cases c3 : R (48 + a) = 1
      · simp only [if_pos c3]
        unfold uZ
        by_cases z : j = a
        · rw [if_pos z, if_pos z, z, h3 a (Int.le_refl _) h1]; rfl
        · rw [if_neg z, if_neg z]; exact (Int.add_zero _).symm
      · simp only [if_neg c3]
        exact (Int.add_zero _).symm
    obtain ⟨m, em⟩ : ∃ m, hlf (vl R w) a b = m := ⟨_, rfl⟩
    obtain ⟨ls, es⟩ : ∃ ls, bok R a m - fld R a m = ls := ⟨_, rfl⟩
    have hm := hlf_in (vl R w) (a := a) (b := b) (by omega)
    rw [em] at hm
    rw [sr_c c1 c2 em es, sr_c c1 c2 em es]
    obtain ⟨A, eA⟩ : ∃ A, A = (if 0 < ls then sr R w f a m ls (lk + 1) F else (lk + 1, F)) := ⟨_, rfl⟩
    obtain ⟨B, eB⟩ : ∃ B, B = (if 0 < ls then sr R w f a m ls (0 + 1) (fun _ => 0) else (0 + 1, fun _ => 0)) := ⟨_, rfl⟩
    rw [← eA, ← eB]
    have key : A.1 = lk + B.1 ∧ (∀ j, A.2 j = F j + B.2 j) ∧ ∀ j, m ≤ j → B.2 j = 0 := by
      by_cases c : 0 < ls
      · rw [if_pos c] at eA eB
        have i1 := sr_ad R w f a m ls (lk + 1) F hm.1 (by omega) (fun j j1 j2 => h3 j j1 (by omega))
        have i2 := sr_ad R w f a m ls (0 + 1) (fun _ => 0) hm.1 (by omega) (fun j j1 j2 => rfl)
        rw [← eA] at i1
        rw [← eB] at i2
        refine ⟨by omega, fun j => ?_, fun j hj => ?_⟩
        · rw [i1.2, i2.2]; omega
        · rw [i2.2, sfd_out hm.1 (by omega) (Or.inr hj)]; rfl
      · rw [if_neg c] at eA eB
        rw [eA, eB]
        exact ⟨by show lk + 1 = lk + (0 + 1); omega, fun j => by show F j = F j + 0; omega, fun j _ => rfl⟩
    obtain ⟨k1, k2, k3⟩ := key
    split
    · have i1 := sr_ad R w f m b (l - ls) A.1 A.2 hm.2 (by omega) (fun j j1 j2 => by rw [k2, k3 j j1, h3 j (by omega) j2]; rfl)
      have i2 := sr_ad R w f m b (l - ls) B.1 B.2 hm.2 (by omega) (fun j j1 j2 => k3 j j1)
      refine ⟨by omega, fun j => ?_⟩
      rw [i1.2, i2.2, k2]; omega
    · exact ⟨k1, k2⟩
/-- fuel enough for all rows -/
def SL (R : Int → Int) (w a b l : Int) : Int := slk R w 48 a b l
def SF (R : Int → Int) (w a b l j : Int) : Int := sfd R w 48 a b l j
section SLF
variable {R : Int → Int} {w a b l : Int}
theorem SF_out {j : Int} (h1 : a < b) (h2 : b - a ≤ 48) (h3 : j < a ∨ b ≤ j) : SF R w a b l j = 0 := sfd_out h1 (by omega) h3
theorem SLF_1 (c1 : l = bok R a b) : SL R w a b l = 0 ∧ ∀ j, SF R w a b l j = if a ≤ j ∧ j < b then 1 else 0 := by
  unfold SL SF slk sfd
  rw [sr_1 c1]
  exact ⟨rfl, fun j => rfl⟩
theorem SLF_2 (c1 : ¬ l = bok R a b) (c2 : b - a = 1) : SL R w a b l = 1 ∧ ∀ j, SF R w a b l j = if j = a ∧ R (48 + a) = 1 then 1 else 0 := by
  unfold SL SF slk sfd
  rw [sr_2 c1 c2]
  refine ⟨rfl, fun j => ?_⟩
  by_cases c3 : R (48 + a) = 1
  · simp only [if_pos c3]
    unfold uZ
    by_cases c : j = a
    · rw [if_pos c, if_pos ⟨c, c3⟩]
    · rw [if_neg c, if_neg (fun z => c z.1)]
  · simp only [if_neg c3]
    rw [if_neg (fun z => c3 z.2)]
theorem SLF_3 {m ls : Int} (c1 : ¬ l = bok R a b) (c2 : ¬ b - a = 1) (h1 : a < b) (h2 : b - a ≤ 48) (em : hlf (vl R w) a b = m) (es : bok R a m - fld R a m = ls) : SL R w a b l = 1 + (if 0 < ls then SL R w a m ls else 0) + (if ls < l then SL R w m b (l - ls) else 0) ∧ ∀ j, SF R w a b l j = (if 0 < ls then SF R w a m ls j else 0) + (if ls < l then SF R w m b (l - ls) j else 0) := by
  have hm := hlf_in (vl R w) (a := a) (b := b) (by omega)
  rw [em] at hm
  have fu : ∀ (x y v : Int), x < y → y - x ≤ 47 → SL R w x y v = slk R w 47 x y v ∧ ∀ j, SF R w x y v j = sfd R w 47 x y v j := fun x y v q1 q2 => by
    unfold SL SF slk sfd
    rw [sr_fu R w 48 47 x y v 0 _ q1 (by omega) (by omega)]
    exact ⟨rfl, fun _ => rfl⟩
  obtain ⟨B, eB⟩ : ∃ B, B = (if 0 < ls then sr R w 47 a m ls (0 + 1) (fun _ => 0) else (0 + 1, fun _ => 0)) := ⟨_, rfl⟩
  have key : B.1 = 1 + (if 0 < ls then SL R w a m ls else 0) ∧ (∀ j, B.2 j = if 0 < ls then SF R w a m ls j else 0) ∧ ∀ j, m ≤ j → B.2 j = 0 := by
    by_cases c : 0 < ls
    · rw [if_pos c] at eB
      have i2 := sr_ad R w 47 a m ls (0 + 1) (fun _ => 0) hm.1 (by omega) (fun j j1 j2 => rfl)
      rw [← eB] at i2
      have f := fu a m ls hm.1 (by omega)
      refine ⟨by rw [if_pos c, f.1]; exact i2.1, fun j => ?_, fun j hj => ?_⟩
      · rw [if_pos c, f.2, i2.2]; omega
      · rw [i2.2, sfd_out hm.1 (by omega) (Or.inr hj)]; rfl
    · rw [if_neg c] at eB
      rw [eB]
      exact ⟨by rw [if_neg c]; rfl, fun j => by rw [if_neg c], fun j _ => rfl⟩
  obtain ⟨k1, k2, k3⟩ := key
  have eS : sr R w 48 a b l 0 (fun _ => 0) = if ls < l then sr R w 47 m b (l - ls) B.1 B.2 else B := by
    rw [eB]
    exact sr_c c1 c2 em es
  have e1 : SL R w a b l = (sr R w 48 a b l 0 (fun _ => 0)).1 := rfl
  have e2 : ∀ j, SF R w a b l j = (sr R w 48 a b l 0 (fun _ => 0)).2 j := fun _ => rfl
  by_cases c : ls < l
  · rw [if_pos c] at eS
    have i2 := sr_ad R w 47 m b (l - ls) B.1 B.2 hm.2 (by omega) (fun j j1 j2 => k3 j j1)
    have f := fu m b (l - ls) hm.2 (by omega)
    refine ⟨by rw [e1, eS, i2.1, k1, if_pos c, f.1], fun j => ?_⟩
    rw [e2, eS, i2.2, k2, if_pos c, f.2]
  · rw [if_neg c] at eS
    refine ⟨by rw [e1, eS, k1, if_neg c, Int.add_zero], fun j => ?_⟩
    rw [e2, eS, k2, if_neg c, Int.add_zero]
end SLF
theorem sfd_01 {R : Int → Int} {w : Int} {a b l : Int} (h1 : a < b) (h2 : b - a ≤ 48) : f01 (SF R w a b l) := (sr_sp R w 48 a b l 0 _ h1 (by omega) f01_0).1
theorem slk_in {R : Int → Int} {w : Int} {a b l : Int} (h1 : a < b) (h2 : b - a ≤ 48) : 0 ≤ SL R w a b l ∧ SL R w a b l ≤ 95 := by
  have := sr_sp R w 48 a b l 0 _ h1 (by omega) f01_0
  have e : SL R w a b l = (sr R w 48 a b l 0 (fun _ => 0)).1 := rfl
  omega
end SAD
