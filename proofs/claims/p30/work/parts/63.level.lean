/-! ===== searches level by level: the parts of a level, in whole numbers ===== -/
section LEV
/-- a part of the rows: from, to, what is lacking -/
abbrev Pt : Type := Int × Int × Int
def hfp (R : Int → Int) (w : Int) (p : Pt) : Int := hlf (vl R w) p.1 p.2.1
def gp (R : Int → Int) (w : Int) (p : Pt) : Int := gon R p.1 (hfp R w p)
/-- the parts that are searched next for a part -/
def chl (R : Int → Int) (w : Int) (p : Pt) : List Pt :=
  if p.2.2 = bok R p.1 p.2.1 ∨ p.2.1 = p.1 + 1 then []
  else (if 0 < gp R w p then [(p.1, hfp R w p, gp R w p)] else []) ++ (if gp R w p < p.2.2 then [(hfp R w p, p.2.1, p.2.2 - gp R w p)] else [])
def nxl (R : Int → Int) (w : Int) : List Pt → List Pt
  | [] => []
  | p :: r => chl R w p ++ nxl R w r
def srt (a b : Int) : List Pt → Prop
  | [] => a ≤ b
  | p :: r => a ≤ p.1 ∧ p.1 < p.2.1 ∧ 0 < p.2.2 ∧ p.2.2 ≤ 10000 ∧ srt p.2.1 b r
theorem srt_lo {a a' b : Int} : ∀ {L : List Pt}, srt a b L → a' ≤ a → srt a' b L
  | [], h, h2 => by have h : a ≤ b := h; show a' ≤ b; omega
  | p :: r, h, h2 => ⟨Int.le_trans h2 h.1, h.2⟩
theorem srt_le {a b : Int} : ∀ {L : List Pt}, srt a b L → a + L.length ≤ b
  | [], h => by have h : a ≤ b := h; simpa using h
  | p :: r, h => by
    have i := srt_le h.2.2.2.2
    obtain ⟨h1, h2, -⟩ := h
    rw [List.length_cons]
    omega
theorem srt_app {a b c : Int} : ∀ {L M : List Pt}, srt a b L → srt b c M → srt a c (L ++ M)
  | [], M, h, h2 => srt_lo h2 h
  | p :: r, M, h, h2 => ⟨h.1, h.2.1, h.2.2.1, h.2.2.2.1, srt_app h.2.2.2.2 h2⟩
theorem srt_in {a b : Int} {q : Pt} : ∀ {L : List Pt}, srt a b L → q ∈ L → a ≤ q.1 ∧ q.1 < q.2.1 ∧ q.2.1 ≤ b ∧ 0 < q.2.2 ∧ q.2.2 ≤ 10000
  | [], h, m => absurd m List.not_mem_nil
  | p :: r, h, m => by
    rcases List.mem_cons.mp m with e | m
    · have i := srt_le h.2.2.2.2
      obtain ⟨h1, h2, h3, h4, -⟩ := h
      rw [e]
      exact ⟨h1, h2, by omega, h3, h4⟩
    · obtain ⟨i1, i2⟩ := srt_in h.2.2.2.2 m
      obtain ⟨h1, h2, -⟩ := h
      exact ⟨by omega, i2⟩
theorem gon_in {R : Int → Int} (i : inv R) {x y : Int} (h1 : 0 ≤ x) (h2 : x ≤ y) (h3 : y ≤ 48) : 0 ≤ gon R x y ∧ gon R x y ≤ 4752 := by
  have e := gon_e (R := R) i.1.2.1 h1 h2 h3
  have f := fld_in i.1.1 h1 h2 h3
  have g := bok_in i.1.1 h1 h2 h3
  omega
theorem hp_in {R : Int → Int} {w : Int} {p : Pt} (h : 2 ≤ p.2.1 - p.1) : p.1 < hfp R w p ∧ hfp R w p < p.2.1 := hlf_in (vl R w) h
theorem srt_chl {R : Int → Int} (i : inv R) {w : Int} {p : Pt} (h1 : 0 ≤ p.1) (h2 : p.1 < p.2.1) (h3 : p.2.1 ≤ 48) (h4 : 0 < p.2.2) (h5 : p.2.2 ≤ 10000) : srt p.1 p.2.1 (chl R w p) := by
  unfold chl
  split
  · exact Int.le_of_lt h2
  · rename_i c
    have c2 : ¬ p.2.1 = p.1 + 1 := fun z => c (Or.inr z)
    have m := hp_in (R := R) (w := w) (p := p) (by omega)
    have g := gon_in i h1 (Int.le_of_lt m.1) (by omega)
    have g : 0 ≤ gp R w p ∧ gp R w p ≤ 4752 := g
    refine srt_app (b := hfp R w p) ?_ ?_
    · split
      · exact ⟨Int.le_refl _, m.1, by assumption, by show gp R w p ≤ 10000; omega, Int.le_refl _⟩
      · exact Int.le_of_lt m.1
    · split
      · exact ⟨Int.le_refl _, m.2, by show 0 < p.2.2 - gp R w p; omega, by show p.2.2 - gp R w p ≤ 10000; omega, Int.le_refl _⟩
      · exact Int.le_of_lt m.2
theorem srt_nxl {R : Int → Int} (i : inv R) {w : Int} : ∀ {L : List Pt} {a b : Int}, srt a b L → 0 ≤ a → b ≤ 48 → srt a b (nxl R w L)
  | [], a, b, h, h1, h2 => h
  | p :: r, a, b, h, h1, h2 => by
    have l := srt_le h.2.2.2.2
    obtain ⟨g1, g2, g3, g4, g5⟩ := h
    exact srt_lo (srt_app (srt_chl i (by omega) g2 (by omega) g3 g4) (srt_nxl i g5 (by omega) h2)) g1
/-- looks and rows found of parts -/
def sL (R : Int → Int) (w : Int) : List Pt → Int
  | [] => 0
  | p :: r => SL R w p.1 p.2.1 p.2.2 + sL R w r
def sF (R : Int → Int) (w j : Int) : List Pt → Int
  | [] => 0
  | p :: r => SF R w p.1 p.2.1 p.2.2 j + sF R w j r
theorem sL_app {R : Int → Int} {w : Int} : ∀ {L M : List Pt}, sL R w (L ++ M) = sL R w L + sL R w M
  | [], M => (Int.zero_add _).symm
  | p :: r, M => by
    show SL R w p.1 p.2.1 p.2.2 + sL R w (r ++ M) = SL R w p.1 p.2.1 p.2.2 + sL R w r + sL R w M
    rw [sL_app (L := r)]; omega
theorem sF_app {R : Int → Int} {w j : Int} : ∀ {L M : List Pt}, sF R w j (L ++ M) = sF R w j L + sF R w j M
  | [], M => (Int.zero_add _).symm
  | p :: r, M => by
    show SF R w p.1 p.2.1 p.2.2 j + sF R w j (r ++ M) = SF R w p.1 p.2.1 p.2.2 j + sF R w j r + sF R w j M
    rw [sF_app (L := r)]; omega
/-- a part's own look, what is found with it -/
def owl (R : Int → Int) (p : Pt) : Int := if p.2.2 = bok R p.1 p.2.1 then 0 else 1
def owf (R : Int → Int) (p : Pt) (j : Int) : Int := if (p.1 ≤ j ∧ j < p.2.1) ∧ (p.2.2 = bok R p.1 p.2.1 ∨ (p.2.1 = p.1 + 1 ∧ R (48 + j) = 1)) then 1 else 0
theorem SL_chl {R : Int → Int} (i : inv R) {w : Int} {p : Pt} (h1 : 0 ≤ p.1) (h2 : p.1 < p.2.1) (h3 : p.2.1 ≤ 48) : SL R w p.1 p.2.1 p.2.2 = owl R p + sL R w (chl R w p) ∧ ∀ j, SF R w p.1 p.2.1 p.2.2 j = owf R p j + sF R w j (chl R w p) := by
  obtain ⟨x, y, l⟩ := p
  dsimp only at h1 h2 h3 ⊢
  by_cases c1 : l = bok R x y
  · have e := SLF_1 (w := w) c1
    have ec : chl R w (x, y, l) = [] := if_pos (Or.inl c1)
    rw [ec, e.1]
    refine ⟨by unfold owl; rw [if_pos c1]; rfl, fun j => ?_⟩
    rw [e.2]
    unfold owf
    dsimp only
    by_cases c : x ≤ j ∧ j < y
    · rw [if_pos c, if_pos ⟨c, Or.inl c1⟩]; rfl
    · rw [if_neg c, if_neg (fun z => c z.1)]; rfl
  by_cases c2 : y = x + 1
  · have e := SLF_2 (w := w) c1 (by omega)
    have ec : chl R w (x, y, l) = [] := if_pos (Or.inr c2)
    rw [ec, e.1]
    refine ⟨by unfold owl; rw [if_neg c1]; rfl, fun j => ?_⟩
    rw [e.2]
    unfold owf
    dsimp only
    by_cases c : j = x ∧ R (48 + x) = 1
    · rw [if_pos c, if_pos ⟨by omega, Or.inr ⟨c2, by rw [c.1]; exact c.2⟩⟩]; rfl
    · rw [if_neg c, if_neg]
      · rfl
      · rintro ⟨z1, z2 | z2⟩
        · exact c1 z2
        · have : j = x := by omega
          exact c ⟨this, by rw [← this]; exact z2.2⟩
  · have m := hp_in (R := R) (w := w) (p := (x, y, l)) (by show 2 ≤ y - x; omega)
    have eg := gon_e (R := R) i.1.2.1 h1 (Int.le_of_lt m.1) (by have : hfp R w (x, y, l) < y := m.2; omega)
    have e := SLF_3 (R := R) (w := w) (m := hfp R w (x, y, l)) (ls := gp R w (x, y, l)) c1 (by omega) h2 (by omega) rfl (show _ = _ from eg.symm)
    have ec : chl R w (x, y, l) = (if 0 < gp R w (x, y, l) then [(x, hfp R w (x, y, l), gp R w (x, y, l))] else []) ++ (if gp R w (x, y, l) < l then [(hfp R w (x, y, l), y, l - gp R w (x, y, l))] else []) := if_neg (fun z => z.elim c1 c2)
    rw [ec, e.1]
    refine ⟨?_, fun j => ?_⟩
    · rw [sL_app]
      have e1 : owl R (x, y, l) = 1 := if_neg c1
      rw [e1]
      have s1 : sL R w (if 0 < gp R w (x, y, l) then [(x, hfp R w (x, y, l), gp R w (x, y, l))] else []) = if 0 < gp R w (x, y, l) then SL R w x (hfp R w (x, y, l)) (gp R w (x, y, l)) else 0 := by
        split
        · exact Int.add_zero _
        · rfl
      have s2 : sL R w (if gp R w (x, y, l) < l then [(hfp R w (x, y, l), y, l - gp R w (x, y, l))] else []) = if gp R w (x, y, l) < l then SL R w (hfp R w (x, y, l)) y (l - gp R w (x, y, l)) else 0 := by
        split
        · exact Int.add_zero _
        · rfl
      rw [s1, s2]
      omega
    · rw [e.2, sF_app]
      have e1 : owf R (x, y, l) j = 0 := if_neg (fun z => z.2.elim c1 (fun y => c2 y.1))
      rw [e1]
      have s1 : sF R w j (if 0 < gp R w (x, y, l) then [(x, hfp R w (x, y, l), gp R w (x, y, l))] else []) = if 0 < gp R w (x, y, l) then SF R w x (hfp R w (x, y, l)) (gp R w (x, y, l)) j else 0 := by
        split
        · exact Int.add_zero _
        · rfl
      have s2 : sF R w j (if gp R w (x, y, l) < l then [(hfp R w (x, y, l), y, l - gp R w (x, y, l))] else []) = if gp R w (x, y, l) < l then SF R w (hfp R w (x, y, l)) y (l - gp R w (x, y, l)) j else 0 := by
        split
        · exact Int.add_zero _
        · rfl
      rw [s1, s2]
      omega
/-- the widest part -/
def wid (n : Nat) (L : List Pt) : Prop := ∀ p : Pt, p ∈ L → p.2.1 - p.1 ≤ n
theorem mem_chl {R : Int → Int} {w : Int} {p q : Pt} (h : q ∈ chl R w p) : (¬ p.2.2 = bok R p.1 p.2.1 ∧ ¬ p.2.1 = p.1 + 1) ∧ (q = (p.1, hfp R w p, gp R w p) ∨ q = (hfp R w p, p.2.1, p.2.2 - gp R w p)) := by
  unfold chl at h
  split at h
  · exact absurd h List.not_mem_nil
  · rename_i c
    refine ⟨⟨fun z => c (Or.inl z), fun z => c (Or.inr z)⟩, ?_⟩
    rcases List.mem_append.mp h with h | h
    · split at h
      · exact Or.inl (List.mem_singleton.mp h)
      · exact absurd h List.not_mem_nil
    · split at h
      · exact Or.inr (List.mem_singleton.mp h)
      · exact absurd h List.not_mem_nil
theorem mem_nxl {R : Int → Int} {w : Int} {q : Pt} : ∀ {L : List Pt}, q ∈ nxl R w L → ∃ p, p ∈ L ∧ q ∈ chl R w p
  | [], h => absurd h List.not_mem_nil
  | p :: r, h => by
    rcases List.mem_append.mp h with h | h
    · exact ⟨p, List.mem_cons_self, h⟩
    · obtain ⟨p2, h1, h2⟩ := mem_nxl h
      exact ⟨p2, List.mem_cons_of_mem _ h1, h2⟩
theorem wid_nxl {R : Int → Int} {w : Int} {n : Nat} {L : List Pt} {a b : Int} (s : srt a b L) (h : wid (n + 1) L) : wid n (nxl R w L) := fun q hq => by
  obtain ⟨p, h1, h2⟩ := mem_nxl hq
  have l := h p h1
  have g := srt_in s h1
  obtain ⟨⟨-, c2⟩, e⟩ := mem_chl h2
  have m := hp_in (R := R) (w := w) (p := p) (by omega)
  rcases e with e | e
  · rw [e]; show hfp R w p - p.1 ≤ n; omega
  · rw [e]; show p.2.1 - hfp R w p ≤ n; omega
theorem wid_0 {L : List Pt} {a b : Int} (s : srt a b L) (h : wid 0 L) : L = [] := by
  cases L with
  | nil => rfl
  | cons p r =>
    have l := h p List.mem_cons_self
    have g := srt_in s (List.mem_cons_self (a := p) (l := r))
    omega
/-- what the law notes as lacking for rows x to y -/
def mvl (R : Int → Int) (x y : Int) : Int → List Pt → Int
  | acc, [] => acc
  | acc, p :: r => mvl R x y (if p.1 ≤ x ∧ x < p.2.1 then (if x = p.1 then gon R x y else p.2.2 - gon R p.1 x) else acc) r
theorem mvl_out {R : Int → Int} {x y : Int} : ∀ {L : List Pt} {a b acc : Int}, srt a b L → x < a → mvl R x y acc L = acc
  | [], a, b, acc, s, h => rfl
  | p :: r, a, b, acc, s, h => by
    obtain ⟨g1, g2, g3, g4, g5⟩ := s
    show mvl R x y (if p.1 ≤ x ∧ x < p.2.1 then _ else acc) r = acc
    rw [if_neg (by omega), mvl_out g5 (by omega)]
theorem mvl_chl {R : Int → Int} {w : Int} {p q : Pt} (hq : q ∈ chl R w p) : ∀ {L : List Pt} {a b acc : Int}, srt a b L → p ∈ L → mvl R q.1 q.2.1 acc L = q.2.2
  | [], a, b, acc, s, h => absurd h List.not_mem_nil
  | p2 :: r, a, b, acc, s, h => by
    rcases List.mem_cons.mp h with e | h
    · subst e
      obtain ⟨g1, g2, g3, g4, g5⟩ := s
      obtain ⟨⟨-, c2⟩, e⟩ := mem_chl hq
      have m := hp_in (R := R) (w := w) (p := p) (by omega)
      show mvl R q.1 q.2.1 (if p.1 ≤ q.1 ∧ q.1 < p.2.1 then (if q.1 = p.1 then gon R q.1 q.2.1 else p.2.2 - gon R p.1 q.1) else acc) r = q.2.2
      rcases e with e | e
      · rw [e]
        dsimp only
        rw [mvl_out g5 (by omega), if_pos ⟨Int.le_refl _, g2⟩, if_pos rfl]
        rfl
      · rw [e]
        dsimp only
        rw [mvl_out g5 (by omega), if_pos ⟨by omega, by omega⟩, if_neg (by omega)]
        rfl
    · show mvl R q.1 q.2.1 _ r = q.2.2
      exact mvl_chl hq s.2.2.2.2 h
theorem mvl_nxl {R : Int → Int} {w : Int} {q : Pt} {L : List Pt} {a b acc : Int} (s : srt a b L) (h : q ∈ nxl R w L) : mvl R q.1 q.2.1 acc L = q.2.2 := by
  obtain ⟨p, h1, h2⟩ := mem_nxl h
  exact mvl_chl h2 s h1
/-- arrays that hold parts from place k on -/
def arl (B E K : Int → Int) : Int → List Pt → Prop
  | _, [] => True
  | k, p :: r => B k = p.1 ∧ E k = p.2.1 ∧ K k = p.2.2 ∧ arl B E K (k + 1) r
def nxa (X : Int → Int) : Int → List Pt → Prop
  | _, [] => True
  | k, p :: r => X k = 100 * p.1 + p.2.1 ∧ nxa X (k + 1) r
def lka (Y : Int → Int) : Int → List Pt → Prop
  | _, [] => True
  | k, p :: r => Y k = p.2.2 ∧ lka Y (k + 1) r
theorem arl_app {B E K : Int → Int} : ∀ {L M : List Pt} {k : Int}, arl B E K k L → arl B E K (k + L.length) M → arl B E K k (L ++ M)
  | [], M, k, h1, h2 => by rw [List.length_nil, show k + ((0 : Nat) : Int) = k by omega] at h2; exact h2
  | p :: r, M, k, h1, h2 => ⟨h1.1, h1.2.1, h1.2.2.1, arl_app h1.2.2.2 (by rw [List.length_cons, show k + ((r.length + 1 : Nat) : Int) = k + 1 + r.length by omega] at h2; exact h2)⟩
theorem nxa_app {X : Int → Int} : ∀ {L M : List Pt} {k : Int}, nxa X k L → nxa X (k + L.length) M → nxa X k (L ++ M)
  | [], M, k, h1, h2 => by rw [List.length_nil, show k + ((0 : Nat) : Int) = k by omega] at h2; exact h2
  | p :: r, M, k, h1, h2 => ⟨h1.1, nxa_app h1.2 (by rw [List.length_cons, show k + ((r.length + 1 : Nat) : Int) = k + 1 + r.length by omega] at h2; exact h2)⟩
theorem lka_app {X : Int → Int} : ∀ {L M : List Pt} {k : Int}, lka X k L → lka X (k + L.length) M → lka X k (L ++ M)
  | [], M, k, h1, h2 => by rw [List.length_nil, show k + ((0 : Nat) : Int) = k by omega] at h2; exact h2
  | p :: r, M, k, h1, h2 => ⟨h1.1, lka_app h1.2 (by rw [List.length_cons, show k + ((r.length + 1 : Nat) : Int) = k + 1 + r.length by omega] at h2; exact h2)⟩
theorem arl_cg {B E K B' E' K' : Int → Int} : ∀ {L : List Pt} {k : Int}, arl B E K k L → (∀ j, k ≤ j → j < k + L.length → B' j = B j ∧ E' j = E j ∧ K' j = K j) → arl B' E' K' k L
  | [], k, h1, h2 => trivial
  | p :: r, k, h1, h2 => by
    have g := h2 k (Int.le_refl _) (by rw [List.length_cons]; omega)
    exact ⟨g.1.trans h1.1, g.2.1.trans h1.2.1, g.2.2.trans h1.2.2.1, arl_cg h1.2.2.2 (fun j j1 j2 => h2 j (by omega) (by rw [List.length_cons]; omega))⟩
theorem nxa_cg {X X' : Int → Int} : ∀ {L : List Pt} {k : Int}, nxa X k L → (∀ j, k ≤ j → j < k + L.length → X' j = X j) → nxa X' k L
  | [], k, h1, h2 => trivial
  | p :: r, k, h1, h2 => ⟨(h2 k (Int.le_refl _) (by rw [List.length_cons]; omega)).trans h1.1, nxa_cg h1.2 (fun j j1 j2 => h2 j (by omega) (by rw [List.length_cons]; omega))⟩
theorem lka_cg {X X' : Int → Int} : ∀ {L : List Pt} {k : Int}, lka X k L → (∀ j, k ≤ j → j < k + L.length → X' j = X j) → lka X' k L
  | [], k, h1, h2 => trivial
  | p :: r, k, h1, h2 => ⟨(h2 k (Int.le_refl _) (by rw [List.length_cons]; omega)).trans h1.1, lka_cg h1.2 (fun j j1 j2 => h2 j (by omega) (by rw [List.length_cons]; omega))⟩
end LEV
