/-! ===== actions on the row of numbers, in whole numbers ===== -/
def wr (z : Int) : Int := (iI z).toInt
theorem iI_wr (z : Int) : iI (wr z) = iI z := (iI_of (iI z)).symm
theorem wr_in (z : Int) : inI (wr z) := iI_in _
def lcz (x y : Int64) : Int := if y < x then 1 else if x = y then 0 else -1
theorem lg_cmp_z (x y : Int64) : lg_cmp x y = iI (lcz x y) := by
  unfold lg_cmp lcz
  split
  · rfl
  · split <;> rfl
theorem lcz_in (x y : Int64) : inI (lcz x y) := by
  unfold lcz inI
  split
  · omega
  · split <;> omega
theorem lcz_0 {x y : Int64} : lcz x y = 0 ↔ x = y := by
  unfold lcz
  split
  · rename_i h
    constructor
    · intro z; omega
    · intro z; subst z; exact absurd h Int64.lt_irrefl
  · split <;> simp_all
theorem ax_lcmpz {d m pc : Nat} {ls st : List Value} {h : am_H} {Q : am_R → am_H → Prop} {x y : Int64} (hf : am_tab m pc = some (.lcmp, 1, 0, 0, 0, .null)) (k : am_X d m (pc + 1) ls (.int (iI (lcz x y)) :: st) h Q) : am_X d m pc ls (.long y :: .long x :: st) h Q :=
  ax_lcmp hf (lg_cmp_z x y ▸ k)
def frg (R : Int → Int) (j : Int) : Int := if 192 ≤ j ∧ j < 217 then 0 else R j
def rfe (R F : Int → Int) (j : Int) : Int := if 144 ≤ j ∧ j < 192 then F (j - 144) else frg R j
def sfe (R : Int → Int) (r y : Int) : Int → Int := if R (144 + r) = y then R else frg (uZ R (144 + r) y)
/-- the sums of the blocks ahead of n are told -/
def tls (R : Int → Int) (n j : Int) : Int := if j = 192 then 1 else if 193 ≤ j ∧ j < 193 + n then fld R (fro R (j - 193)) (fro R (j - 193 + 1)) + R (205 + (j - 193)) else R j
def tel (R : Int → Int) : Int → Int := tls R (blk R)
/-- a search that took lk looks and found F is noted -/
def nts (R : Int → Int) (lk : Int) (F : Int → Int) (j : Int) : Int :=
  if j = 217 then wr (R 217 + lk) else if 218 ≤ j ∧ j < 266 then F (j - 218) else if j = 266 then sm F 0 48
  else if j = 267 then sm (fun j => if R (48 + j) = 1 then 0 else F j) 0 48 else if j = 268 then sm (fun j => if F j = 1 then 0 else R (48 + j)) 0 48
  else if 96 ≤ j ∧ j < 144 then min (R j + F (j - 96)) 99 else R j
/-- the greatest -/
def mxf (R : Int → Int) : Int → Int → Nat → Int
  | a, _, 0 => a
  | a, r, n + 1 => mxf R (if a < R r then R r else a) (r + 1) n
def hvy (R : Int → Int) : Int := mxf R 0 0 48
theorem mxf_sp (R : Int → Int) : ∀ (n : Nat) (a r g : Int), mxf R a r n ≤ g ↔ (a ≤ g ∧ ∀ j, r ≤ j → j < r + n → R j ≤ g)
  | 0, a, r, g => ⟨fun h => ⟨h, fun j h1 h2 => by omega⟩, fun h => h.1⟩
  | n + 1, a, r, g => by
    show mxf R (if a < R r then R r else a) (r + 1) n ≤ g ↔ _
    rw [mxf_sp R n]
    constructor
    · rintro ⟨h1, h2⟩
      have h3 : a ≤ g ∧ R r ≤ g := by split at h1 <;> omega
      refine ⟨h3.1, fun j j1 j2 => ?_⟩
      by_cases e : j = r
      · rw [e]; exact h3.2
      · exact h2 j (by omega) (by omega)
    · rintro ⟨h1, h2⟩
      refine ⟨?_, fun j j1 j2 => h2 j (by omega) (by omega)⟩
      have := h2 r (by omega) (by omega)
      split <;> omega
theorem hvy_sp {R : Int → Int} {g : Int} : hvy R ≤ g ↔ (0 ≤ g ∧ ∀ j, 0 ≤ j → j < 48 → R j ≤ g) := by
  unfold hvy
  rw [mxf_sp]
  simp
/-- the book of the block under way if each block takes what g allows -/
def gb (R : Int → Int) (g : Int) : Nat → Int
  | 0 => 0
  | n + 1 => if gb R g n + R n ≤ g then gb R g n + R n else R n
def gf (R : Int → Int) (g j : Int) : Int := if gb R g j.toNat + R j ≤ g then 0 else 1
theorem gf_01 (R : Int → Int) (g j : Int) : gf R g j = 0 ∨ gf R g j = 1 := by unfold gf; split <;> simp
theorem gb_in {R : Int → Int} (i : ibt R 0 48 1 99) (g : Int) : ∀ n : Nat, n ≤ 48 → 0 ≤ gb R g n ∧ gb R g n ≤ 99 * n
  | 0, _ => by simp [gb]
  | n + 1, h => by
    have := gb_in i g n (by omega)
    have hw := i n (by omega) (by omega)
    rw [Int.zero_add] at hw
    unfold gb
    split <;> omega
theorem gf_mono {R : Int → Int} (i : ibt R 0 48 1 99) {g g' : Int} (hg : g ≤ g') (hw : ∀ j, 0 ≤ j → j < 48 → R j ≤ g) : ∀ n : Nat, n ≤ 48 → sm (gf R g') 0 n < sm (gf R g) 0 n ∨ (sm (gf R g') 0 n = sm (gf R g) 0 n ∧ gb R g' n ≤ gb R g n)
  | 0, _ => Or.inr ⟨rfl, Int.le_refl _⟩
  | n + 1, h => by
    have ih := gf_mono i hg hw n (by omega)
    have b1 := gb_in i g n (by omega)
    have b2 := gb_in i g' n (by omega)
    have w1 := i n (by omega) (by omega)
    rw [Int.zero_add] at w1
    have w2 := hw n (by omega) (by omega)
    rw [sm_snoc, sm_snoc]
    have e1 : gf R g (0 + (n : Int)) = if gb R g n + R n ≤ g then 0 else 1 := by unfold gf; rw [Int.zero_add, Int.toNat_natCast]
    have e2 : gf R g' (0 + (n : Int)) = if gb R g' n + R n ≤ g' then 0 else 1 := by unfold gf; rw [Int.zero_add, Int.toNat_natCast]
    rw [e1, e2]
    show _ ∨ (_ ∧ (if gb R g' n + R n ≤ g' then gb R g' n + R n else R n) ≤ (if gb R g n + R n ≤ g then gb R g n + R n else R n))
    split <;> split <;> omega
def fts (R : Int → Int) (g n : Int) : Prop := hvy R ≤ g ∧ sm (gf R g) 0 48 ≤ n
theorem fts_mono {R : Int → Int} (i : ibt R 0 48 1 99) {g g' n : Int} (h : fts R g n) (hg : g ≤ g') : fts R g' n := by
  have := gf_mono i hg (hvy_sp.mp h.1).2 48 (by omega)
  exact ⟨by have := h.1; omega, by have := h.2; omega⟩
theorem gb_big {R : Int → Int} (i : ibt R 0 48 1 99) {g : Int} (hg : 4752 ≤ g) {j : Int} (h1 : 0 ≤ j) (h2 : j < 48) : gf R g j = 0 := by
  have b1 := gb_in i g j.toNat (by omega)
  have w1 := i j (by omega) (by omega)
  rw [Int.zero_add] at w1
  unfold gf
  rw [if_pos (by omega)]
theorem fts_big {R : Int → Int} (i : ibt R 0 48 1 99) {g n : Int} (hg : 4752 ≤ g) (hn : 0 ≤ n) : fts R g n := by
  refine ⟨hvy_sp.mpr ⟨by omega, fun j h1 h2 => by have := i j (by omega) (by omega); rw [Int.zero_add] at this; omega⟩, ?_⟩
  have := sm_le (f := gf R g) (c := 0) (n := 48) (a := 0) (fun j h1 h2 => by rw [gb_big i hg h1 (by omega)]; exact Int.le_refl _)
  omega
def bl (R : Int → Int) (n : Int) : Nat → Int → Int
  | 0, g => g
  | f + 1, g => if n < sm (gf R g) 0 48 then bl R n f (g + 1) else g
/-- the least that the greatest book of a block could be with n fences -/
def bal (R : Int → Int) (n : Int) : Int := bl R n 4800 (hvy R)
theorem bl_sp {R : Int → Int} (i : ibt R 0 48 1 99) {n : Int} (hn : 0 ≤ n) : ∀ (f : Nat) (g : Int), hvy R ≤ g → 4752 ≤ g + f → (∀ x, x < g → ¬ fts R x n) → fts R (bl R n f g) n ∧ ∀ x, x < bl R n f g → ¬ fts R x n
  | 0, g, h1, h2, h3 => ⟨show fts R g n from fts_big i (by omega) hn, h3⟩
  | f + 1, g, h1, h2, h3 => by
    unfold bl
    split
    · rename_i c
      refine bl_sp i hn f (g + 1) (by omega) (by omega) (fun x hx => ?_)
      by_cases e : x = g
      · subst e
        intro z
        have := z.2
        omega
      · exact h3 x (by omega)
    · rename_i c
      exact ⟨⟨h1, by omega⟩, h3⟩
theorem hvy_0 (R : Int → Int) : 0 ≤ hvy R := (hvy_sp.mp (Int.le_refl _)).1
theorem bal_sp {R : Int → Int} (i : ibt R 0 48 1 99) {n : Int} (hn : 0 ≤ n) : fts R (bal R n) n ∧ ∀ x, x < bal R n → ¬ fts R x n :=
  bl_sp i hn 4800 (hvy R) (Int.le_refl _) (by have := hvy_0 R; omega) (fun x hx z => by have := z.1; omega)
theorem bal_in {R : Int → Int} (i : ibt R 0 48 1 99) {n : Int} (hn : 0 ≤ n) : 1 ≤ bal R n ∧ bal R n ≤ 4752 := by
  have h := bal_sp i hn
  constructor
  · have := (hvy_sp.mp h.1.1).2 0 (by omega) (by omega)
    have w := i 0 (by omega) (by omega)
    rw [Int.zero_add] at w
    omega
  · by_cases c : bal R n ≤ 4752
    · exact c
    · exact absurd (fts_big i (Int.le_refl _) hn) (h.2 4752 (by omega))
theorem bal_of {R : Int → Int} (i : ibt R 0 48 1 99) {n g : Int} (hn : 0 ≤ n) (h1 : fts R (g + 1) n) (h2 : ¬ fts R g n) : bal R n = g + 1 := by
  have h := bal_sp i hn
  by_cases c : bal R n ≤ g
  · exact absurd (fts_mono i h.1 c) h2
  · by_cases c2 : g + 1 < bal R n
    · exact absurd h1 (h.2 _ c2)
    · omega
theorem fts_0 {R : Int → Int} (i : ibt R 0 48 1 99) {g n : Int} (hg : g ≤ 0) : ¬ fts R g n := fun z => by
  have := (hvy_sp.mp z.1).2 0 (by omega) (by omega)
  have w := i 0 (by omega) (by omega)
  rw [Int.zero_add] at w
  omega
/-- what depends on the fences alone -/
theorem bat_cong {R R' : Int → Int} (e : ∀ j, 144 ≤ j → j < 192 → R' j = R j) {r : Int} (h : r < 48) : bat R' r = bat R r := sm_cong fun j h1 h2 => e _ (by omega) (by omega)
theorem blk_cong {R R' : Int → Int} (e : ∀ j, 144 ≤ j → j < 192 → R' j = R j) : blk R' = blk R := by
  unfold blk
  rw [sm_cong (g := fun k => R (144 + k)) fun j h1 h2 => e _ (by omega) (by omega)]
theorem frx_cong {R R' : Int → Int} (e : ∀ j, 144 ≤ j → j < 192 → R' j = R j) (k : Int) : ∀ (n : Nat) (r : Int), r + n = 48 → frx R' k r n = frx R k r n
  | 0, _, _ => rfl
  | n + 1, r, h => by
    show (if bat R' r < k then frx R' k (r + 1) n else r) = if bat R r < k then frx R k (r + 1) n else r
    rw [bat_cong e (by omega), frx_cong e k n (r + 1) (by omega)]
theorem fro_cong {R R' : Int → Int} (e : ∀ j, 144 ≤ j → j < 192 → R' j = R j) (k : Int) : fro R' k = fro R k := frx_cong e k 48 0 (by omega)
theorem fld_cong {R R' : Int → Int} (e : ∀ j, 0 ≤ j → j < 96 → R' j = R j) {a b : Int} (h1 : 0 ≤ a) (h2 : b ≤ 48) : fld R' a b = fld R a b := sm_cong fun j j1 j2 => by
  unfold fv
  rw [e _ (by omega) (by omega), e _ (by omega) (by omega)]
theorem bok_cong {R R' : Int → Int} (e : ∀ j, 0 ≤ j → j < 48 → R' j = R j) {a b : Int} (h1 : 0 ≤ a) (h2 : b ≤ 48) : bok R' a b = bok R a b := sm_cong fun j j1 j2 => e _ (by omega) (by omega)
theorem bok_in {R : Int → Int} (i : ibt R 0 48 1 99) {a b : Int} (h1 : 0 ≤ a) (h2 : a ≤ b) (h3 : b ≤ 48) : b - a ≤ bok R a b ∧ bok R a b ≤ 99 * (b - a) := by
  have w : ∀ j, 0 ≤ j → j < 48 → 1 ≤ R j ∧ R j ≤ 99 := fun j j1 j2 => by have := i j j1 j2; rwa [Int.zero_add] at this
  have l := sm_le (f := R) (c := 99) (n := (b - a).toNat) (a := a) (fun j j1 j2 => (w j (by omega) (by omega)).2)
  have g := sm_ge (f := R) (c := 1) (n := (b - a).toNat) (a := a) (fun j j1 j2 => (w j (by omega) (by omega)).1)
  rw [Int.toNat_of_nonneg (by omega)] at l g
  unfold bok
  omega
theorem fld_in {R : Int → Int} (i : ibt R 0 48 1 99) {a b : Int} (h1 : 0 ≤ a) (h2 : a ≤ b) (h3 : b ≤ 48) : 0 ≤ fld R a b ∧ fld R a b ≤ bok R a b := by
  have w : ∀ j, 0 ≤ j → j < 48 → 1 ≤ R j ∧ R j ≤ 99 := fun j j1 j2 => by have := i j j1 j2; rwa [Int.zero_add] at this
  have l := sm_le2 (f := fv R) (g := R) (n := (b - a).toNat) (a := a) (fun j j1 j2 => by have := w j (by omega) (by omega); unfold fv; split <;> omega)
  have g := sm_ge (f := fv R) (c := 0) (n := (b - a).toNat) (a := a) (fun j j1 j2 => by have := w j (by omega) (by omega); unfold fv; split <;> omega)
  unfold fld bok
  omega
theorem tls_0 (R : Int → Int) (j : Int) : tls R 0 j = uZ R 192 1 j := by
  unfold tls uZ
  split
  · rfl
  · rw [if_neg (by omega)]
