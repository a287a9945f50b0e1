/-! ===== halving rows, searches: in whole numbers ===== -/
/-- the place that halves best: from m on, n places are left -/
def pl (f : Int → Int) (all : Int) : Int → Int → Int → Int → Nat → Int
  | best, _, _, _, 0 => best
  | best, near, ah, m, n + 1 =>
    if (if 2 * (ah + f (m - 1)) < all then all - 2 * (ah + f (m - 1)) else 2 * (ah + f (m - 1)) - all) < near
    then pl f all m (if 2 * (ah + f (m - 1)) < all then all - 2 * (ah + f (m - 1)) else 2 * (ah + f (m - 1)) - all) (ah + f (m - 1)) (m + 1) n
    else pl f all best near (ah + f (m - 1)) (m + 1) n
def hlf (f : Int → Int) (a b : Int) : Int := pl f (sm f a (b - a).toNat) (a + 1) 1000000 0 (a + 1) (b - a - 1).toNat
theorem pl_in (f : Int → Int) (all lo hi : Int) : ∀ (n : Nat) (best near ah m : Int), lo ≤ best → best ≤ hi → lo ≤ m → m + n ≤ hi + 1 → lo ≤ pl f all best near ah m n ∧ pl f all best near ah m n ≤ hi
  | 0, best, near, ah, m, h1, h2, h3, h4 => ⟨h1, h2⟩
  | n + 1, best, near, ah, m, h1, h2, h3, h4 => by
    unfold pl
    generalize (if 2 * (ah + f (m - 1)) < all then all - 2 * (ah + f (m - 1)) else 2 * (ah + f (m - 1)) - all) = off
    split
    · exact pl_in f all lo hi n _ _ _ _ h3 (by omega) (by omega) (by omega)
    · exact pl_in f all lo hi n _ _ _ _ h1 h2 (by omega) (by omega)
theorem hlf_in (f : Int → Int) {a b : Int} (h : 2 ≤ b - a) : a < hlf f a b ∧ hlf f a b < b := by
  have := pl_in f (sm f a (b - a).toNat) (a + 1) (b - 1) (b - a - 1).toNat (a + 1) 1000000 0 (a + 1) (by omega) (by omega) (by omega) (by omega)
  unfold hlf
  omega
def ival (f : Int → Int) (a b : Int) : Prop := ∀ j, a ≤ j → j < b → 1 ≤ f j ∧ f j ≤ 100
theorem ival_in {f : Int → Int} {a : Int} {n : Nat} (i : ival f a (a + n)) : n ≤ sm f a n ∧ sm f a n ≤ 100 * n := by
  have l := sm_le (f := f) (c := 100) (n := n) (a := a) (fun j j1 j2 => (i j j1 j2).2)
  have g := sm_ge (f := f) (c := 1) (n := n) (a := a) (fun j j1 j2 => (i j j1 j2).1)
  omega
/-- the class starts with the whole as the nearest: it comes to the same -/
theorem hlf_all {f : Int → Int} {a b : Int} (h0 : a < b) (h48 : b - a ≤ 48) (i : ival f a b) : pl f (sm f a (b - a).toNat) (a + 1) (sm f a (b - a).toNat) 0 (a + 1) (b - a - 1).toNat = hlf f a b := by
  unfold hlf
  by_cases h : b - a = 1
  · rw [show (b - a - 1).toNat = 0 by omega]; rfl
  · obtain ⟨k, hk⟩ : ∃ k, (b - a - 1).toNat = k + 1 := ⟨(b - a - 2).toNat, by omega⟩
    have e : (b - a).toNat = (k + 1) + 1 := by omega
    have i1 := ival_in (f := f) (a := a + 1) (n := k + 1) (fun j j1 j2 => i j (by omega) (by omega))
    have i0 := i a (by omega) (by omega)
    rw [hk, e, sm_1]
    unfold pl
    rw [show a + 1 - 1 = a by omega, Int.zero_add]
    generalize sm f (a + 1) (k + 1) = X at *
    have c1 : (if 2 * f a < f a + X then f a + X - 2 * f a else 2 * f a - (f a + X)) < f a + X := by split <;> omega
    have c2 : (if 2 * f a < f a + X then f a + X - 2 * f a else 2 * f a - (f a + X)) < 1000000 := by split <;> omega
    rw [if_pos c1, if_pos c2]
/-- a search of rows a to b, in which lack weighs what is lacking: looks and rows found -/
def sr (R : Int → Int) (w : Int) : Nat → Int → Int → Int → Int → (Int → Int) → Int × (Int → Int)
  | 0, _, _, _, lk, F => (lk, F)
  | f + 1, a, b, lack, lk, F =>
    if lack = bok R a b then (lk, fun j => if a ≤ j ∧ j < b then 1 else F j)
    else if b - a = 1 then (lk + 1, if R (48 + a) = 1 then uZ F a 1 else F)
    else
      let m := hlf (vl R w) a b
      let less := bok R a m - fld R a m
      let s := if 0 < less then sr R w f a m less (lk + 1) F else (lk + 1, F)
      if less < lack then sr R w f m b (lack - less) s.1 s.2 else s
theorem sr_step (R : Int → Int) (w : Int) (f : Nat) (a b lack lk : Int) (F : Int → Int) (h1 : ¬ lack = bok R a b) (h2 : ¬ b - a = 1) :
    sr R w (f + 1) a b lack lk F = (if bok R a (hlf (vl R w) a b) - fld R a (hlf (vl R w) a b) < lack then sr R w f (hlf (vl R w) a b) b (lack - (bok R a (hlf (vl R w) a b) - fld R a (hlf (vl R w) a b))) (if 0 < bok R a (hlf (vl R w) a b) - fld R a (hlf (vl R w) a b) then sr R w f a (hlf (vl R w) a b) (bok R a (hlf (vl R w) a b) - fld R a (hlf (vl R w) a b)) (lk + 1) F else (lk + 1, F)).1 (if 0 < bok R a (hlf (vl R w) a b) - fld R a (hlf (vl R w) a b) then sr R w f a (hlf (vl R w) a b) (bok R a (hlf (vl R w) a b) - fld R a (hlf (vl R w) a b)) (lk + 1) F else (lk + 1, F)).2 else (if 0 < bok R a (hlf (vl R w) a b) - fld R a (hlf (vl R w) a b) then sr R w f a (hlf (vl R w) a b) (bok R a (hlf (vl R w) a b) - fld R a (hlf (vl R w) a b)) (lk + 1) F else (lk + 1, F))) := by
  show (if lack = bok R a b then _ else if b - a = 1 then _ else _) = _
  rw [if_neg h1, if_neg h2]
def f01 (F : Int → Int) : Prop := ∀ j, 0 ≤ j → j < 48 → F j = 0 ∨ F j = 1
/-- what a search leaves alone, how many looks it takes -/
theorem sr_sp (R : Int → Int) (w : Int) : ∀ (f : Nat) (a b lack lk : Int) (F : Int → Int), a < b → b - a ≤ f → f01 F →
    f01 (sr R w f a b lack lk F).2 ∧ (∀ j, j < a ∨ b ≤ j → (sr R w f a b lack lk F).2 j = F j) ∧ lk ≤ (sr R w f a b lack lk F).1 ∧ (sr R w f a b lack lk F).1 ≤ lk + 2 * (b - a) - 1
  | 0, a, b, lack, lk, F, h1, h2, h3 => by omega
  | f + 1, a, b, lack, lk, F, h1, h2, h3 => by
    by_cases c1 : lack = bok R a b
    · have e : sr R w (f + 1) a b lack lk F = (lk, fun j => if a ≤ j ∧ j < b then 1 else F j) := by
        show (if lack = bok R a b then _ else _) = _
        rw [if_pos c1]
      rw [e]
      refine ⟨fun j j1 j2 => ?_, fun j hj => ?_, Int.le_refl _, by show lk ≤ _; omega⟩
      · show (if _ then _ else _) = _ ∨ (if _ then _ else _) = _
        split
        · exact Or.inr rfl
        · exact h3 j j1 j2
      · show (if _ then _ else _) = _
        rw [if_neg (by omega)]
    · by_cases c2 : b - a = 1
      · have e : sr R w (f + 1) a b lack lk F = (lk + 1, if R (48 + a) = 1 then uZ F a 1 else F) := by
          show (if lack = bok R a b then _ else if b - a = 1 then _ else _) = _
          rw [if_neg c1, if_pos c2]
        rw [e]
        refine ⟨fun j j1 j2 => ?_, fun j hj => ?_, by show lk ≤ lk + 1; omega, by show lk + 1 ≤ _; omega⟩
        · show (if _ then _ else _ : Int → Int) j = _ ∨ (if _ then _ else _ : Int → Int) j = _
          have := h3 j j1 j2
          split
          · by_cases ej : j = a
            · rw [ej, uZ_s]; simp
            · rw [uZ_n ej]; exact this
          · exact this
        · show (if _ then _ else _ : Int → Int) j = _
          split
          · rw [uZ_n (by omega)]
          · rfl
      · rw [sr_step R w f a b lack lk F c1 c2]
        obtain ⟨m1, m2⟩ := hlf_in (vl R w) (a := a) (b := b) (by omega)
        generalize hlf (vl R w) a b = m at *
        generalize bok R a m - fld R a m = less
        have key : ∀ s : Int × (Int → Int), s = (if 0 < less then sr R w f a m less (lk + 1) F else (lk + 1, F)) → f01 s.2 ∧ (∀ j, j < a ∨ m ≤ j → s.2 j = F j) ∧ lk + 1 ≤ s.1 ∧ s.1 ≤ lk + 2 * (m - a) := by
          intro s hs
          by_cases c3 : 0 < less
          · rw [if_pos c3] at hs
            have := sr_sp R w f a m less (lk + 1) F m1 (by omega) h3
            rw [← hs] at this
            exact ⟨this.1, this.2.1, this.2.2.1, by omega⟩
          · rw [if_neg c3] at hs
            subst hs
            exact ⟨h3, fun _ _ => rfl, Int.le_refl _, by show lk + 1 ≤ _; omega⟩
        obtain ⟨s, hs⟩ : ∃ s, s = (if 0 < less then sr R w f a m less (lk + 1) F else (lk + 1, F)) := ⟨_, rfl⟩
        obtain ⟨k1, k2, k3, k4⟩ := key s hs
        rw [← hs]
        split
        · have := sr_sp R w f m b (lack - less) s.1 s.2 m2 (by omega) k1
          exact ⟨this.1, fun j hj => by rw [this.2.1 j (by omega), k2 j (by omega)], by omega, by omega⟩
        · exact ⟨k1, fun j hj => k2 j (by omega), by omega, by omega⟩
/-- a search of all blocks from k on, n of them -/
def sea (R : Int → Int) (w : Int) : Int → Nat → Int → (Int → Int) → Int × (Int → Int)
  | _, 0, lk, F => (lk, F)
  | k, n + 1, lk, F =>
    let lk1 := if R 269 = 0 then lk + 1 else lk
    let lack := bok R (fro R k) (fro R (k + 1)) - (if R 269 = 0 then fld R (fro R k) (fro R (k + 1)) else R (193 + k))
    let s := if 0 < lack then sr R w 48 (fro R k) (fro R (k + 1)) lack lk1 F else (lk1, F)
    sea R w (k + 1) n s.1 s.2
def sek (R : Int → Int) (w : Int) : Int × (Int → Int) := sea R w 0 (blk R).toNat 0 (fun _ => 0)
theorem sea_sp {R : Int → Int} (i : ffe R) (w : Int) : ∀ (n : Nat) (k lk : Int) (F : Int → Int), 0 ≤ k → k + n = blk R → f01 F →
    f01 (sea R w k n lk F).2 ∧ lk ≤ (sea R w k n lk F).1 ∧ (sea R w k n lk F).1 ≤ lk + n + 2 * (48 - fro R k)
  | 0, k, lk, F, h0, h1, h2 => ⟨h2, Int.le_refl _, by show lk ≤ _; have := (fro_sp i k).2.1; omega⟩
  | n + 1, k, lk, F, h0, h1, h2 => by
    obtain ⟨b1, b2, b3⟩ := fro_lt i h0 (by omega)
    have b4 := (fro_sp i k).1
    have b5 := (fro_sp i (k + 1)).2.1
    unfold sea
    dsimp only
    generalize hl : (if R 269 = 0 then lk + 1 else lk) = lk1
    have hl2 : lk ≤ lk1 ∧ lk1 ≤ lk + 1 := by rw [← hl]; split <;> omega
    generalize bok R (fro R k) (fro R (k + 1)) - (if R 269 = 0 then fld R (fro R k) (fro R (k + 1)) else R (193 + k)) = lack
    obtain ⟨s, hs⟩ : ∃ s, s = (if 0 < lack then sr R w 48 (fro R k) (fro R (k + 1)) lack lk1 F else (lk1, F)) := ⟨_, rfl⟩
    rw [← hs]
    have key : f01 s.2 ∧ lk1 ≤ s.1 ∧ s.1 ≤ lk1 + 2 * (fro R (k + 1) - fro R k) := by
      by_cases c : 0 < lack
      · rw [if_pos c] at hs
        have := sr_sp R w 48 (fro R k) (fro R (k + 1)) lack lk1 F b3 (by omega) h2
        rw [← hs] at this
        exact ⟨this.1, this.2.2.1, by omega⟩
      · rw [if_neg c] at hs
        subst hs
        exact ⟨h2, Int.le_refl _, by show lk1 ≤ _; omega⟩
    have := sea_sp i w n (k + 1) s.1 s.2 (by omega) (by omega) key.1
    exact ⟨this.1, by omega, by omega⟩
theorem sek_sp {R : Int → Int} (i : ffe R) (hb : blk R ≤ 12) (w : Int) : f01 (sek R w).2 ∧ 0 ≤ (sek R w).1 ∧ (sek R w).1 ≤ 200 := by
  have h1 := blk_1 i
  have := sea_sp i w (blk R).toNat 0 0 (fun _ => 0) (by omega) (by omega) (fun _ _ _ => Or.inl rfl)
  rw [fro_0 i (Int.le_refl 0)] at this
  exact ⟨this.1, this.2.1, by have := this.2.2; unfold sek; omega⟩
theorem vl_ival {R : Int → Int} (i : inv R) (w : Int) : ival (vl R w) 0 48 := fun j j1 j2 => by
  have a := i.wt j1 j2
  have b := i.lo j1 j2
  unfold vl
  split
  · omega
  · split <;> omega
/-! ===== halving rows: the class ===== -/
/-- sums of values are measured -/
def Hlv (h : am_H) (a : Nat) (V : Int → Int) : Prop := h.1[a]? = some (.inr (0, [.ref (a + 1)])) ∧ ∃ g, oI h (a + 1) 49 g ∧ ∀ j, 0 ≤ j → j ≤ 48 → g j = sm V 0 j.toNat
def Hl0 (h : am_H) (a : Nat) : Prop := h.1[a]? = some (.inr (0, [.ref (a + 1)])) ∧ ∃ g, oI h (a + 1) 49 g ∧ g 0 = 0
theorem Hlv.z {h : am_H} {a : Nat} {V : Int → Int} (q : Hlv h a V) : Hl0 h a := by
  obtain ⟨o, g, g1, g2⟩ := q
  exact ⟨o, g, g1, g2 0 (by omega) (by omega)⟩
theorem Hlv.fr {h h' : am_H} {a : Nat} {V : Int → Int} {S : Nat → Prop} (q : Hlv h a V) (b : fr S h h') (h1 : ¬ S a) (h2 : ¬ S (a + 1)) : Hlv h' a V := by
  obtain ⟨o, g, g1, g2⟩ := q
  exact ⟨b.at h1 o, g, g1.fr b h2, g2⟩
theorem Hl0.fr {h h' : am_H} {a : Nat} {S : Nat → Prop} (q : Hl0 h a) (b : fr S h h') (h1 : ¬ S a) (h2 : ¬ S (a + 1)) : Hl0 h' a := by
  obtain ⟨o, g, g1, g2⟩ := q
  exact ⟨b.at h1 o, g, g1.fr b h2, g2⟩
section HLV
theorem lp_24 {d p a : Nat} {h : am_H} {Q : am_R → am_H → Prop} {R : Int → Int} {w : Int} (hM : Mead h p R) (hw : w = 0 ∨ w = 1 ∨ w = 2) (hd : a + 1 < p ∨ p + 4 < a + 1) (o : h.1[a]? = some (.inr (0, [.ref (a + 1)]))) : ∀ (n : Nat) (r : Int), r + n = 48 → 0 ≤ r → ∀ g : Int → Int, oI h (a + 1) 49 g → (∀ j, 0 ≤ j → j ≤ r → g j = sm (vl R w) 0 j.toNat) →
    (∀ h' g', fr (fun q => q = a + 1) h h' → oI h' (a + 1) 49 g' → (∀ j, 0 ≤ j → j ≤ 48 → g' j = sm (vl R w) 0 j.toNat) → am_X (d + 3) 24 35 [.ref a, .ref p, .int (iI w), .int (iI 48)] [] h' Q) → am_X (d + 3) 24 2 [.ref a, .ref p, .int (iI w), .int (iI r)] [] h Q
  | 0, r, h1, h2, g, ag, hg, k => by
    have h1 : r = 48 := by omega
    subst h1
    refine ax_iload_n f24_2 rfl ?_
    refine ax_bipush f24_3 ?_
    refine ax_icmp_ge f24_5 rfl ⟨by omega, by omega⟩ ⟨by omega, by omega⟩ (fun q5 => ?_) (fun q5 => absurd q5 (by omega))
    exact k h g fr_rf ag hg
  | n + 1, r, h1, h2, g, ag, hg, k => by
    refine ax_iload_n f24_2 rfl ?_
    refine ax_bipush f24_3 ?_
    refine ax_icmp_ge f24_5 rfl ⟨by omega, by omega⟩ ⟨by omega, by omega⟩ (fun q5 => absurd q5 (by omega)) (fun q5 => ?_)
    refine ax_aload_n f24_8 rfl ?_
    refine ax_getf f24_9 o rfl ?_
    refine ax_iload_n f24_12 rfl ?_
    refine ax_iconst f24_13 ?_
    refine ax_iadd f24_14 ?_
    refine ax_aload_n f24_15 rfl ?_
    refine ax_getf f24_16 o rfl ?_
    refine ax_iload_n f24_19 rfl ?_
    refine ax_ialdO f24_20 (by decide) ag (by omega) (by omega) rfl ?_
    refine ax_aload_n f24_21 rfl ?_
    refine ax_iload_n f24_22 rfl ?_
    refine ax_iload_n f24_23 rfl ?_
    refine ax_cvI f24_24 hM.1 rfl rfl rfl rfl rfl rfl rfl rfl (c_45 hM (by omega) (by omega) hw) ?_
    rintro _ rfl
    refine ax_iadd f24_27 ?_
    refine ax_iastO f24_28 ag (by omega) (by omega) rfl (fun h1 o1 r1 => ?_)
    refine ax_iinc f24_29 rfl (Nat.le_of_ble_eq_true rfl) rfl ?_
    refine ax_goto f24_32 rfl ?_
    refine lp_24 (hM.fr r1 (fun q q1 q2 => by omega)) hw hd (r1.at (by omega) o) n (r + 1) (by omega) (by omega) _ o1 ?_ ?_
    · intro j j1 j2
      by_cases e : j = r + 1
      · rw [e, uZ_s, hg r h2 (by omega), show (r + 1).toNat = r.toNat + 1 by omega, sm_snoc, Int.zero_add, Int.toNat_of_nonneg h2]
      · rw [uZ_n e]
        exact hg j j1 (by omega)
    · intro h9 g9 f9 a9 b9
      exact k h9 g9 (r1.trans f9) a9 b9
theorem c_24 {h : am_H} {p a : Nat} {R : Int → Int} {w : Int} (hH : Hl0 h a) (hM : Mead h p R) (hw : w = 0 ∨ w = 1 ∨ w = 2) (hd : a + 1 < p ∨ p + 4 < a + 1) : am_X 3 24 0 (am_ent 24 [.ref a, .ref p, .int (iI w)]) [] h (fun r h' => rV r ∧ Hlv h' a (vl R w) ∧ fr (fun q => q = a + 1) h h') := by
  show am_X 3 24 0 [.ref a, .ref p, .int (iI w), am_u] [] h _
  refine ax_iconst f24_0 ?_
  refine ax_istore_n f24_1 (Nat.le_of_ble_eq_true rfl) rfl ?_
  obtain ⟨o, g, g1, g2⟩ := hH
  refine lp_24 (d := 0) hM hw hd o 48 0 (by omega) (by omega) g g1 (fun j j1 j2 => by rw [show j = 0 by omega]; exact g2) ?_
  intro h9 g9 f9 a9 b9
  refine ax_return f24_35 rfl ?_
  exact ⟨rfl, ⟨f9.at (by omega) o, g9, a9, b9⟩, f9⟩
theorem sm_dif (V : Int → Int) {a b : Int} (h1 : 0 ≤ a) (h2 : a ≤ b) : sm V 0 b.toNat - sm V 0 a.toNat = sm V a (b - a).toNat := by
  rw [show b.toNat = a.toNat + (b - a).toNat by omega, sm_cat, Int.zero_add, Int.toNat_of_nonneg h1]; omega
theorem c_25 {h : am_H} {q : Nat} {V : Int → Int} (hH : Hlv h q V) {a b : Int} (h1 : 0 ≤ a) (h2 : a < b) (h3 : b ≤ 48) : am_X 0 25 0 (am_ent 25 [.ref q, .int (iI a), .int (iI b)]) [] h (fun r h' => rI r (sm V a (b - a).toNat) ∧ h' = h) := by
  show am_X 0 25 0 [.ref q, .int (iI a), .int (iI b)] [] h _
  obtain ⟨o, g, g1, g2⟩ := hH
  refine ax_iload_n f25_0 rfl ?_
  refine ax_if_lt f25_1 rfl ⟨by omega, by omega⟩ (fun q1 => absurd q1 (by omega)) (fun q1 => ?_)
  refine ax_iload_n f25_4 rfl ?_
  refine ax_iload_n f25_5 rfl ?_
  refine ax_icmp_ge f25_6 rfl ⟨by omega, by omega⟩ ⟨by omega, by omega⟩ (fun q6 => absurd q6 (by omega)) (fun q6 => ?_)
  refine ax_iload_n f25_9 rfl ?_
  refine ax_bipush f25_10 ?_
  refine ax_icmp_gt f25_12 rfl ⟨by omega, by omega⟩ ⟨by omega, by omega⟩ (fun q12 => absurd q12 (by omega)) (fun q12 => ?_)
  refine ax_aload_n f25_15 rfl ?_
  refine ax_getf f25_16 o rfl ?_
  refine ax_iload_n f25_19 rfl ?_
  refine ax_ialdO f25_20 (by decide) g1 (by omega) (by omega) rfl ?_
  refine ax_aload_n f25_21 rfl ?_
  refine ax_getf f25_22 o rfl ?_
  refine ax_iload_n f25_25 rfl ?_
  refine ax_ialdO f25_26 (by decide) g1 (by omega) (by omega) rfl ?_
  refine ax_isub f25_27 ?_
  refine ax_goto f25_28 rfl ?_
  refine ax_ireturn f25_32 rfl rfl ?_
  exact ⟨rI_of (by rw [g2 b (by omega) h3, g2 a h1 (by omega), sm_dif V h1 (by omega)]), rfl⟩
theorem lp_26 {d q : Nat} {h : am_H} {Q : am_R → am_H → Prop} {V : Int → Int} {a b all : Int} (hH : Hlv h q V) (i : ival V 0 48) (hab : 0 ≤ a ∧ a < b ∧ b ≤ 48 ∧ 0 ≤ all ∧ all ≤ 4800) : ∀ (n : Nat) (m best near ah : Int) (x : Value), m + n = b → a < m → 0 ≤ near → near ≤ 10000 → ah = sm V a (m - 1 - a).toNat → (∀ (y : Value) (nr : Int), am_X (d + 1) 26 63 [.ref q, .int (iI a), .int (iI b), .int (iI all), .int (iI (pl V all best near ah m n)), .int (iI nr), .int (iI b), y] [] h Q) → am_X (d + 1) 26 20 [.ref q, .int (iI a), .int (iI b), .int (iI all), .int (iI best), .int (iI near), .int (iI m), x] [] h Q
  | 0, m, best, near, ah, x, h1, h2, h3, h3b, h4, k => by
    have h1 : m = b := by omega
    subst h1
    refine ax_iload f26_20 rfl ?_
    refine ax_iload_n f26_22 rfl ?_
    refine ax_icmp_ge f26_23 rfl ⟨by omega, by omega⟩ ⟨by omega, by omega⟩ (fun q23 => ?_) (fun q23 => absurd q23 (by omega))
    exact k _ _
  | n + 1, m, best, near, ah, x, h1, h2, h3, h3b, h4, k => by
    have hah : ah + V (m - 1) = sm V a (m - a).toNat := by
      rw [h4, show (m - a).toNat = (m - 1 - a).toNat + 1 by omega, sm_snoc]
      congr 2; omega
    have hbd := ival_in (f := V) (a := a) (n := (m - a).toNat) (fun j j1 j2 => i j (by omega) (by omega))
    have hv : sm V a (m - a).toNat = ah + V (m - 1) := hah.symm
    rw [hv] at hbd
    have habs : (if 0 ≤ 2 * (ah + V (m - 1)) - all then 2 * (ah + V (m - 1)) - all else -(2 * (ah + V (m - 1)) - all)) = if 2 * (ah + V (m - 1)) < all then all - 2 * (ah + V (m - 1)) else 2 * (ah + V (m - 1)) - all := by split <;> split <;> omega
    refine ax_iload f26_20 rfl ?_
    refine ax_iload_n f26_22 rfl ?_
    refine ax_icmp_ge f26_23 rfl ⟨by omega, by omega⟩ ⟨by omega, by omega⟩ (fun q23 => absurd q23 (by omega)) (fun q23 => ?_)
    refine ax_iconst f26_26 ?_
    refine ax_aload_n f26_27 rfl ?_
    refine ax_iload_n f26_28 rfl ?_
    refine ax_iload f26_29 rfl ?_
    refine ax_cvI f26_31 hH.1 rfl rfl rfl rfl rfl rfl rfl rfl (c_25 hH (by omega) (by omega) (by omega)) ?_
    rintro _ rfl
    refine ax_imul f26_34 ?_
    rw [hv]
    refine ax_iload_n f26_35 rfl ?_
    refine ax_isub f26_36 ?_
    refine ax_abs f26_37 (Nat.le_of_ble_eq_true rfl) ⟨by omega, by omega⟩ ?_
    rw [habs]
    refine ax_istore f26_40 (Nat.le_of_ble_eq_true rfl) rfl ?_
    refine ax_iload f26_42 rfl ?_
    refine ax_iload f26_44 rfl ?_
    refine ax_icmp_ge f26_46 rfl ⟨by split <;> omega, by split <;> omega⟩ ⟨by omega, by omega⟩ (fun q46 => ?_) (fun q46 => ?_)
    · refine ax_iinc f26_57 rfl (Nat.le_of_ble_eq_true rfl) rfl ?_
      refine ax_goto f26_60 rfl ?_
      refine lp_26 hH i hab n (m + 1) _ _ (ah + V (m - 1)) _ (by omega) (by omega) (by omega) ?_ ?_ ?_
      · omega
      · rw [show m + 1 - 1 = m by omega, hah]
      · unfold pl at k
        rwa [if_neg (by omega)] at k
    · refine ax_iload f26_49 rfl ?_
      refine ax_istore f26_51 (Nat.le_of_ble_eq_true rfl) rfl ?_
      refine ax_iload f26_53 rfl ?_
      refine ax_istore f26_55 (Nat.le_of_ble_eq_true rfl) rfl ?_
      refine ax_iinc f26_57 rfl (Nat.le_of_ble_eq_true rfl) rfl ?_
      refine ax_goto f26_60 rfl ?_
      refine lp_26 hH i hab n (m + 1) _ _ (ah + V (m - 1)) _ (by omega) (by omega) (by split <;> omega) ?_ ?_ ?_
      · split <;> omega
      · rw [show m + 1 - 1 = m by omega, hah]
      · unfold pl at k
        rwa [if_pos (Int.not_le.mp q46)] at k
theorem c_26 {h : am_H} {q : Nat} {V : Int → Int} (hH : Hlv h q V) (i : ival V 0 48) {a b : Int} (h1 : 0 ≤ a) (h2 : a < b) (h3 : b ≤ 48) : am_X 1 26 0 (am_ent 26 [.ref q, .int (iI a), .int (iI b)]) [] h (fun r h' => rI r (hlf V a b) ∧ h' = h) := by
  show am_X 1 26 0 [.ref q, .int (iI a), .int (iI b), am_u, am_u, am_u, am_u, am_u] [] h _
  refine ax_aload_n f26_0 rfl ?_
  refine ax_iload_n f26_1 rfl ?_
  refine ax_iload_n f26_2 rfl ?_
  refine ax_cvI f26_3 hH.1 rfl rfl rfl rfl rfl rfl rfl rfl (c_25 hH h1 h2 h3) ?_
  rintro _ rfl
  refine ax_istore_n f26_6 (Nat.le_of_ble_eq_true rfl) rfl ?_
  refine ax_iload_n f26_7 rfl ?_
  refine ax_iconst f26_8 ?_
  refine ax_iadd f26_9 ?_
  refine ax_istore f26_10 (Nat.le_of_ble_eq_true rfl) rfl ?_
  refine ax_iload_n f26_12 rfl ?_
  refine ax_istore f26_13 (Nat.le_of_ble_eq_true rfl) rfl ?_
  refine ax_iload_n f26_15 rfl ?_
  refine ax_iconst f26_16 ?_
  refine ax_iadd f26_17 ?_
  refine ax_istore f26_18 (Nat.le_of_ble_eq_true rfl) rfl ?_
  have hbd := ival_in (f := V) (a := a) (n := (b - a).toNat) (fun j j1 j2 => i j (by omega) (by omega))
  refine lp_26 (d := 0) hH i ⟨h1, h2, h3, by omega, by omega⟩ (b - a - 1).toNat (a + 1) (a + 1) _ 0 am_u (by omega) (by omega) (by omega) (by omega) (by rw [show (a + 1 - 1 - a).toNat = 0 by omega]; rfl) ?_
  intro y nr
  rw [hlf_all h2 (by omega) (fun j j1 j2 => i j (by omega) (by omega))]
  refine ax_iload f26_63 rfl ?_
  refine ax_ireturn f26_65 rfl rfl ?_
  exact ⟨rI_of rfl, rfl⟩
end HLV
