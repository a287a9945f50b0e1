/-! ===== actions keep what holds of the numbers ===== -/
section KEEP
variable {R : Int → Int}
theorem inv_mk (a1 : ∀ r, 0 ≤ r → r < 48 → 1 ≤ R r ∧ R r ≤ 99) (a2 : ∀ r, 0 ≤ r → r < 48 → R (48 + r) = 0 ∨ R (48 + r) = 1) (a3 : ∀ r, 0 ≤ r → r < 48 → 0 ≤ R (96 + r) ∧ R (96 + r) ≤ 99) (a4 : ∀ r, 0 ≤ r → r < 48 → R (144 + r) = 0 ∨ R (144 + r) = 1) (a5 : R 144 = 0) (a6 : blk R ≤ 12) (b1 : R 192 = 0 ∨ R 192 = 1) (b2 : ∀ r, 0 ≤ r → r < 12 → -2 ≤ R (193 + r) ∧ R (193 + r) ≤ 4754) (b3 : ∀ k, blk R ≤ k → k < 12 → R (193 + k) = 0) (b4 : ∀ r, 0 ≤ r → r < 12 → -2 ≤ R (205 + r) ∧ R (205 + r) ≤ 2) (b5 : inI (R 217)) (b6 : ∀ r, 0 ≤ r → r < 48 → R (218 + r) = 0 ∨ R (218 + r) = 1) (c1 : R 266 = sm (fun k => R (218 + k)) 0 48) (c2 : 0 ≤ R 267 ∧ R 267 ≤ 48) (c3 : 0 ≤ R 268 ∧ R 268 ≤ 48) (c4 : R 269 = 0 ∨ R 269 = 1) : inv R :=
  ⟨⟨fun r h1 h2 => by rw [Int.zero_add]; exact a1 r h1 h2, a2, a3, a4, a5, a6⟩, ⟨b1, b2, b3, b4, b5, b6⟩, ⟨c1, c2, c3, c4⟩⟩
theorem sm_uZ {g : Int → Int} {i v : Int} : ∀ (n : Nat) (a : Int), a ≤ i → i < a + n → sm (uZ g i v) a n = sm g a n - g i + v
  | 0, a, h1, h2 => by omega
  | n + 1, a, h1, h2 => by
    rw [sm_1, sm_1]
    by_cases e : i = a
    · subst e
      rw [uZ_s, sm_cong (f := uZ g i v) (g := g) (fun j j1 j2 => uZ_n (by omega))]; omega
    · rw [uZ_n (fun z => e z.symm), sm_uZ n (a + 1) (by omega) (by omega)]; omega
theorem sm_frg {n : Nat} {a : Int} (h : a + n ≤ 192) : sm (frg R) a n = sm R a n := sm_cong fun j h1 h2 => by unfold frg; rw [if_neg (by omega)]
theorem inv_wt (i : inv R) {z v : Int} (z1 : 0 ≤ z) (z2 : z < 48) (v1 : 1 ≤ v) (v2 : v ≤ 99) : inv (uZ R z v) := by
  have e : ∀ j, j ≠ z → (uZ R z v) j = R j := fun j hj => uZ_n hj
  exact inv_mk (fun r h1 h2 => by
    by_cases c : r = z
    · rw [c, uZ_s]; exact ⟨v1, v2⟩
    · rw [e r c]; exact i.wt h1 h2)
    (fun r h1 h2 => by rw [e (48 + r) (by omega)]; exact i.aw h1 h2)
    (fun r h1 h2 => by rw [e (96 + r) (by omega)]; exact i.lo h1 h2)
    (fun r h1 h2 => by rw [e (144 + r) (by omega)]; exact i.fe h1 h2)
    (by rw [e 144 (by omega)]; exact i.f0)
    (by rw [blk_cong (R := R) (fun j h1 h2 => e j (by omega))]; exact i.b12)
    (by rw [e 192 (by omega)]; exact i.td)
    (fun r h1 h2 => by rw [e (193 + r) (by omega)]; exact i.su h1 h2)
    (fun k h1 h2 => by rw [blk_cong (R := R) (fun j h1 h2 => e j (by omega))] at h1; have := blk_1 i.ff; rw [e (193 + k) (by omega)]; exact i.s0 h1 h2)
    (fun r h1 h2 => by rw [e (205 + r) (by omega)]; exact i.li h1 h2)
    (by rw [e 217 (by omega)]; exact i.lk)
    (fun r h1 h2 => by rw [e (218 + r) (by omega)]; exact i.tk h1 h2)
    (by rw [e 266 (by omega), sm_cong (g := fun k => R (218 + k)) (fun j h1 h2 => e _ (by omega))]; exact i.mn)
    (by rw [e 267 (by omega)]; exact i.wr)
    (by rw [e 268 (by omega)]; exact i.mi)
    (by rw [e 269 (by omega)]; exact i.tr)
theorem inv_aw (i : inv R) {z v : Int} (z1 : 0 ≤ z) (z2 : z < 48) (v1 : v = 0 ∨ v = 1) : inv (uZ R (48 + z) v) := by
  have e : ∀ j, j ≠ 48 + z → (uZ R (48 + z) v) j = R j := fun j hj => uZ_n hj
  exact inv_mk (fun r h1 h2 => by rw [e r (by omega)]; exact i.wt h1 h2)
    (fun r h1 h2 => by
    by_cases c : r = z
    · rw [c, uZ_s]; exact v1
    · rw [e _ (by omega)]; exact i.aw h1 h2)
    (fun r h1 h2 => by rw [e (96 + r) (by omega)]; exact i.lo h1 h2)
    (fun r h1 h2 => by rw [e (144 + r) (by omega)]; exact i.fe h1 h2)
    (by rw [e 144 (by omega)]; exact i.f0)
    (by rw [blk_cong (R := R) (fun j h1 h2 => e j (by omega))]; exact i.b12)
    (by rw [e 192 (by omega)]; exact i.td)
    (fun r h1 h2 => by rw [e (193 + r) (by omega)]; exact i.su h1 h2)
    (fun k h1 h2 => by rw [blk_cong (R := R) (fun j h1 h2 => e j (by omega))] at h1; have := blk_1 i.ff; rw [e (193 + k) (by omega)]; exact i.s0 h1 h2)
    (fun r h1 h2 => by rw [e (205 + r) (by omega)]; exact i.li h1 h2)
    (by rw [e 217 (by omega)]; exact i.lk)
    (fun r h1 h2 => by rw [e (218 + r) (by omega)]; exact i.tk h1 h2)
    (by rw [e 266 (by omega), sm_cong (g := fun k => R (218 + k)) (fun j h1 h2 => e _ (by omega))]; exact i.mn)
    (by rw [e 267 (by omega)]; exact i.wr)
    (by rw [e 268 (by omega)]; exact i.mi)
    (by rw [e 269 (by omega)]; exact i.tr)
theorem inv_li (i : inv R) {z v : Int} (z1 : 0 ≤ z) (z2 : z < 12) (v1 : -2 ≤ v) (v2 : v ≤ 2) : inv (uZ R (205 + z) v) := by
  have e : ∀ j, j ≠ 205 + z → (uZ R (205 + z) v) j = R j := fun j hj => uZ_n hj
  exact inv_mk (fun r h1 h2 => by rw [e r (by omega)]; exact i.wt h1 h2)
    (fun r h1 h2 => by rw [e (48 + r) (by omega)]; exact i.aw h1 h2)
    (fun r h1 h2 => by rw [e (96 + r) (by omega)]; exact i.lo h1 h2)
    (fun r h1 h2 => by rw [e (144 + r) (by omega)]; exact i.fe h1 h2)
    (by rw [e 144 (by omega)]; exact i.f0)
    (by rw [blk_cong (R := R) (fun j h1 h2 => e j (by omega))]; exact i.b12)
    (by rw [e 192 (by omega)]; exact i.td)
    (fun r h1 h2 => by rw [e (193 + r) (by omega)]; exact i.su h1 h2)
    (fun k h1 h2 => by rw [blk_cong (R := R) (fun j h1 h2 => e j (by omega))] at h1; have := blk_1 i.ff; rw [e (193 + k) (by omega)]; exact i.s0 h1 h2)
    (fun r h1 h2 => by
    by_cases c : r = z
    · rw [c, uZ_s]; exact ⟨v1, v2⟩
    · rw [e _ (by omega)]; exact i.li h1 h2)
    (by rw [e 217 (by omega)]; exact i.lk)
    (fun r h1 h2 => by rw [e (218 + r) (by omega)]; exact i.tk h1 h2)
    (by rw [e 266 (by omega), sm_cong (g := fun k => R (218 + k)) (fun j h1 h2 => e _ (by omega))]; exact i.mn)
    (by rw [e 267 (by omega)]; exact i.wr)
    (by rw [e 268 (by omega)]; exact i.mi)
    (by rw [e 269 (by omega)]; exact i.tr)
theorem inv_tr (i : inv R) {v : Int} (v1 : v = 0 ∨ v = 1) : inv (uZ R 269 v) := by
  have e : ∀ j, j ≠ 269 → (uZ R 269 v) j = R j := fun j hj => uZ_n hj
  exact inv_mk (fun r h1 h2 => by rw [e r (by omega)]; exact i.wt h1 h2)
    (fun r h1 h2 => by rw [e (48 + r) (by omega)]; exact i.aw h1 h2)
    (fun r h1 h2 => by rw [e (96 + r) (by omega)]; exact i.lo h1 h2)
    (fun r h1 h2 => by rw [e (144 + r) (by omega)]; exact i.fe h1 h2)
    (by rw [e 144 (by omega)]; exact i.f0)
    (by rw [blk_cong (R := R) (fun j h1 h2 => e j (by omega))]; exact i.b12)
    (by rw [e 192 (by omega)]; exact i.td)
    (fun r h1 h2 => by rw [e (193 + r) (by omega)]; exact i.su h1 h2)
    (fun k h1 h2 => by rw [blk_cong (R := R) (fun j h1 h2 => e j (by omega))] at h1; have := blk_1 i.ff; rw [e (193 + k) (by omega)]; exact i.s0 h1 h2)
    (fun r h1 h2 => by rw [e (205 + r) (by omega)]; exact i.li h1 h2)
    (by rw [e 217 (by omega)]; exact i.lk)
    (fun r h1 h2 => by rw [e (218 + r) (by omega)]; exact i.tk h1 h2)
    (by rw [e 266 (by omega), sm_cong (g := fun k => R (218 + k)) (fun j h1 h2 => e _ (by omega))]; exact i.mn)
    (by rw [e 267 (by omega)]; exact i.wr)
    (by rw [e 268 (by omega)]; exact i.mi)
    (by rw [uZ_s]; exact v1)
theorem rfe_f {R F : Int → Int} {r : Int} (h1 : 0 ≤ r) (h2 : r < 48) : rfe R F (144 + r) = F r := by
  unfold rfe
  rw [if_pos (by omega), show 144 + r - 144 = r by omega]
theorem rfe_0 {R F : Int → Int} {j : Int} (h1 : 192 ≤ j) (h2 : j < 217) : rfe R F j = 0 := by
  unfold rfe frg
  rw [if_neg (by omega), if_pos ⟨h1, h2⟩]
theorem rfe_blk {R F : Int → Int} (f0 : F 0 = 0) : blk (rfe R F) = 1 + sm F 0 48 := by
  have e : sm F 0 48 = F 0 + sm F (0 + 1) 47 := rfl
  rw [e, f0, Int.zero_add]
  unfold blk
  rw [sm_cong (f := fun k => rfe R F (144 + k)) (g := F) (fun j h1 h2 => rfe_f (by omega) (by omega))]; rfl
theorem inv_rfe (i : inv R) {F : Int → Int} (f1 : ∀ j, 0 ≤ j → j < 48 → F j = 0 ∨ F j = 1) (f0 : F 0 = 0) (f11 : sm F 0 48 ≤ 11) : inv (rfe R F) := by
  have e : ∀ j, j < 144 ∨ 217 ≤ j → (rfe R F) j = R j := fun j hj => by unfold rfe frg; rw [if_neg (by omega), if_neg (by omega)]
  exact inv_mk (fun r h1 h2 => by rw [e r (by omega)]; exact i.wt h1 h2)
    (fun r h1 h2 => by rw [e (48 + r) (by omega)]; exact i.aw h1 h2)
    (fun r h1 h2 => by rw [e (96 + r) (by omega)]; exact i.lo h1 h2)
    (fun r h1 h2 => by rw [rfe_f h1 h2]; exact f1 r h1 h2)
    (by have := rfe_f (R := R) (F := F) (r := 0) (by omega) (by omega); rw [show (144 : Int) + 0 = 144 from rfl] at this; rw [this]; exact f0)
    (by rw [rfe_blk f0]; omega)
    (by rw [rfe_0 (by omega) (by omega)]; exact Or.inl rfl)
    (fun r h1 h2 => by rw [rfe_0 (by omega) (by omega)]; omega)
    (fun k h1 h2 => by rw [rfe_blk f0] at h1; have := sm_ge (f := F) (c := 0) (n := 48) (a := 0) (fun j j1 j2 => by have := f1 j j1 (by omega); omega); exact rfe_0 (by omega) (by omega))
    (fun r h1 h2 => by rw [rfe_0 (by omega) (by omega)]; omega)
    (by rw [e 217 (by omega)]; exact i.lk)
    (fun r h1 h2 => by rw [e (218 + r) (by omega)]; exact i.tk h1 h2)
    (by rw [e 266 (by omega), sm_cong (g := fun k => R (218 + k)) (fun j h1 h2 => e _ (by omega))]; exact i.mn)
    (by rw [e 267 (by omega)]; exact i.wr)
    (by rw [e 268 (by omega)]; exact i.mi)
    (by rw [e 269 (by omega)]; exact i.tr)
theorem sfe_eq {R : Int → Int} {r y : Int} (c : ¬ R (144 + r) = y) (z1 : 1 ≤ r) (z2 : r < 48) (j : Int) : sfe R r y j = rfe R (uZ (fun j => R (144 + j)) r y) j := by
  unfold sfe
  rw [if_neg c]
  unfold rfe frg uZ
  repeat' split
  all_goals first | rfl | omega | (congr 1; omega)
theorem inv_fe (i : inv R) {r y : Int} (z1 : 1 ≤ r) (z2 : r < 48) (hy : y = 0 ∨ y = 1) (hf : y = 0 ∨ R (144 + r) = 1 ∨ blk R ≤ 11) : inv (sfe R r y) := by
  by_cases c : R (144 + r) = y
  · unfold sfe; rw [if_pos c]; exact i
  · have e : sfe R r y = rfe R (uZ (fun j => R (144 + j)) r y) := funext fun j => sfe_eq c z1 z2 j
    rw [e]
    have h01 := i.fe (r := r) (by omega) z2
    have hb := blk_set i.ff
    refine inv_rfe i (fun j j1 j2 => ?_) ?_ ?_
    · unfold uZ; split
      · exact hy
      · exact i.fe j1 j2
    · rw [uZ_n (by omega)]; exact i.f0
    · rw [sm_uZ 48 0 (by omega) (by omega)]
      have := i.b12
      omega
theorem gf_f0 (i : inv R) {g : Int} (hg : hvy R ≤ g) : gf R g 0 = 0 := by
  unfold gf
  rw [if_pos]
  have := (hvy_sp.mp hg).2 0 (by omega) (by omega)
  show 0 + R 0 ≤ g
  omega
def spr (R : Int → Int) (n : Int) : Int → Int := rfe R (gf R (bal R n))
theorem inv_sp (i : inv R) {n : Int} (n1 : 1 ≤ n) (n2 : n ≤ 11) : inv (spr R n) := by
  have h := bal_sp i.1.1 (n := n) (by omega)
  exact inv_rfe i (fun j _ _ => gf_01 R _ j) (gf_f0 i h.1.1) (by have := h.1.2; omega)
theorem inv_te (i : inv R)  : inv (tel R) := by
  have hb := i.b12
  have hb1 := blk_1 i.ff
  have e : ∀ j, j < 192 ∨ 193 + blk R ≤ j → (tel R) j = R j := fun j hj => by unfold tel tls; rw [if_neg (by omega), if_neg (by omega)]
  exact inv_mk (fun r h1 h2 => by rw [e r (by omega)]; exact i.wt h1 h2)
    (fun r h1 h2 => by rw [e (48 + r) (by omega)]; exact i.aw h1 h2)
    (fun r h1 h2 => by rw [e (96 + r) (by omega)]; exact i.lo h1 h2)
    (fun r h1 h2 => by rw [e (144 + r) (by omega)]; exact i.fe h1 h2)
    (by rw [e 144 (by omega)]; exact i.f0)
    (by rw [blk_cong (R := R) (fun j h1 h2 => e j (by omega))]; exact i.b12)
    (by unfold tel tls; rw [if_pos rfl]; exact Or.inr rfl)
    (fun r h1 h2 => by
    by_cases c : r < blk R
    · have e2 : tel R (193 + r) = fld R (fro R r) (fro R (r + 1)) + R (205 + r) := by
        unfold tel tls
        rw [if_neg (by omega), if_pos (by omega), show 193 + r - 193 = r by omega]
      obtain ⟨b1, b2, b3⟩ := fro_lt i.ff h1 c
      have b4 := (fro_sp i.ff r).1
      have b5 := (fro_sp i.ff (r + 1)).2.1
      have f1 := fld_in i.1.1 (a := fro R r) (b := fro R (r + 1)) b4 (by omega) b5
      have f2 := bok_in i.1.1 (a := fro R r) (b := fro R (r + 1)) b4 (by omega) b5
      have f3 := i.li h1 h2
      rw [e2]; omega
    · rw [e _ (by omega)]; exact i.su h1 h2)
    (fun k h1 h2 => by rw [blk_cong (R := R) (fun j h1 h2 => e j (by omega))] at h1; have := blk_1 i.ff; rw [e (193 + k) (by omega)]; exact i.s0 h1 h2)
    (fun r h1 h2 => by rw [e (205 + r) (by omega)]; exact i.li h1 h2)
    (by rw [e 217 (by omega)]; exact i.lk)
    (fun r h1 h2 => by rw [e (218 + r) (by omega)]; exact i.tk h1 h2)
    (by rw [e 266 (by omega), sm_cong (g := fun k => R (218 + k)) (fun j h1 h2 => e _ (by omega))]; exact i.mn)
    (by rw [e 267 (by omega)]; exact i.wr)
    (by rw [e 268 (by omega)]; exact i.mi)
    (by rw [e 269 (by omega)]; exact i.tr)
theorem inv_nt (i : inv R) {lk : Int} {F : Int → Int} (hF : f01 F) : inv (nts R lk F) := by
  have e218 : ∀ r, 0 ≤ r → r < 48 → nts R lk F (218 + r) = F r := fun r h1 h2 => by
    unfold nts
    rw [if_neg (by omega), if_pos (by omega), show 218 + r - 218 = r by omega]
  have e : ∀ j, j < 96 ∨ (144 ≤ j ∧ j < 217) ∨ 269 ≤ j → (nts R lk F) j = R j := fun j hj => by unfold nts; rw [if_neg (by omega), if_neg (by omega), if_neg (by omega), if_neg (by omega), if_neg (by omega), if_neg (by omega)]
  exact inv_mk (fun r h1 h2 => by rw [e r (by omega)]; exact i.wt h1 h2)
    (fun r h1 h2 => by rw [e (48 + r) (by omega)]; exact i.aw h1 h2)
    (fun r h1 h2 => by
    have e2 : nts R lk F (96 + r) = min (R (96 + r) + F r) 99 := by
      unfold nts
      rw [if_neg (by omega), if_neg (by omega), if_neg (by omega), if_neg (by omega), if_neg (by omega), if_pos (by omega), show 96 + r - 96 = r by omega]
    have := i.lo h1 h2
    have := hF r h1 h2
    rw [e2]; omega)
    (fun r h1 h2 => by rw [e (144 + r) (by omega)]; exact i.fe h1 h2)
    (by rw [e 144 (by omega)]; exact i.f0)
    (by rw [blk_cong (R := R) (fun j h1 h2 => e j (by omega))]; exact i.b12)
    (by rw [e 192 (by omega)]; exact i.td)
    (fun r h1 h2 => by rw [e (193 + r) (by omega)]; exact i.su h1 h2)
    (fun k h1 h2 => by rw [blk_cong (R := R) (fun j h1 h2 => e j (by omega))] at h1; have := blk_1 i.ff; rw [e (193 + k) (by omega)]; exact i.s0 h1 h2)
    (fun r h1 h2 => by rw [e (205 + r) (by omega)]; exact i.li h1 h2)
    (by unfold nts; rw [if_pos rfl]; exact wr_in _)
    (fun r h1 h2 => by rw [e218 r h1 h2]; exact hF r h1 h2)
    (by rw [sm_cong (f := fun k => nts R lk F (218 + k)) (g := F) (fun j j1 j2 => e218 j j1 (by omega))]; rfl)
    (by
    show 0 ≤ sm (fun j => if R (48 + j) = 1 then 0 else F j) 0 48 ∧ sm (fun j => if R (48 + j) = 1 then 0 else F j) 0 48 ≤ 48
    have l := sm_le (f := fun j => if R (48 + j) = 1 then 0 else F j) (c := 1) (n := 48) (a := 0) (fun j j1 j2 => by have := hF j j1 (by omega); split <;> omega)
    have g := sm_ge (f := fun j => if R (48 + j) = 1 then 0 else F j) (c := 0) (n := 48) (a := 0) (fun j j1 j2 => by have := hF j j1 (by omega); split <;> omega)
    omega)
    (by
    show 0 ≤ sm (fun j => if F j = 1 then 0 else R (48 + j)) 0 48 ∧ sm (fun j => if F j = 1 then 0 else R (48 + j)) 0 48 ≤ 48
    have l := sm_le (f := fun j => if F j = 1 then 0 else R (48 + j)) (c := 1) (n := 48) (a := 0) (fun j j1 j2 => by have := i.aw (r := j) j1 (by omega); split <;> omega)
    have g := sm_ge (f := fun j => if F j = 1 then 0 else R (48 + j)) (c := 0) (n := 48) (a := 0) (fun j j1 j2 => by have := i.aw (r := j) j1 (by omega); split <;> omega)
    omega)
    (by rw [e 269 (by omega)]; exact i.tr)
def skd (R : Int → Int) (w : Int) : Int → Int := nts R (sek R w).1 (sek R w).2
theorem inv_sk (i : inv R) (w : Int) : inv (skd R w) := inv_nt i (sek_sp i.ff i.b12 w).1
/-- the meadow at the start -/
def beg (j : Int) : Int := if j < 48 then 1 else if j = 269 then 1 else 0
theorem inv_beg : inv beg := by
  have hb : blk beg = 1 := by decide
  refine inv_mk (fun r h1 h2 => ?_) (fun r h1 h2 => ?_) (fun r h1 h2 => ?_) (fun r h1 h2 => ?_) rfl (by rw [hb]; omega) (Or.inl rfl) (fun r h1 h2 => ?_) (fun k h1 h2 => ?_) (fun r h1 h2 => ?_) ⟨by decide, by decide⟩ (fun r h1 h2 => ?_) (by decide) ⟨by decide, by decide⟩ ⟨by decide, by decide⟩ (Or.inr rfl)
  · unfold beg; rw [if_pos h2]; omega
  all_goals unfold beg
  · rw [if_neg (by omega), if_neg (by omega)]; exact Or.inl rfl
  · rw [if_neg (by omega), if_neg (by omega)]; omega
  · rw [if_neg (by omega), if_neg (by omega)]; exact Or.inl rfl
  · rw [if_neg (by omega), if_neg (by omega)]; omega
  · rw [hb] at h1
    rw [if_neg (by omega), if_neg (by omega)]
  · rw [if_neg (by omega), if_neg (by omega)]; omega
  · rw [if_neg (by omega), if_neg (by omega)]; exact Or.inl rfl
end KEEP
