/-! ===== how many looks it takes: in whole numbers ===== -/
/-- how often rows a to b are halved until row r is alone -/
def hvn (V : Int → Int) (r : Int) : Nat → Int → Int → Int
  | 0, _, _ => 0
  | f + 1, a, b => if b - a < 2 then 0 else 1 + (if r < hlf V a b then hvn V r f a (hlf V a b) else hvn V r f (hlf V a b) b)
theorem hvn_in (V : Int → Int) (r : Int) : ∀ (f : Nat) (a b : Int), 0 ≤ hvn V r f a b ∧ hvn V r f a b ≤ f
  | 0, a, b => ⟨Int.le_refl _, Int.le_refl _⟩
  | f + 1, a, b => by
    unfold hvn
    have h1 := hvn_in V r f a (hlf V a b)
    have h2 := hvn_in V r f (hlf V a b) b
    split
    · omega
    · split <;> omega
def own (V : Int → Int) (a b r : Int) : Int := hvn V r 48 a b
def lkf (V R : Int → Int) (a b : Int) : Int → Int → Int → Nat → Int × Int
  | mo, al, _, 0 => (mo, al)
  | mo, al, r, n + 1 => lkf V R a b (if mo < own V a b r then own V a b r else mo) (al + own V a b r * (R (96 + r) + 1)) (r + 1) n
def lkb (R : Int → Int) (w k : Int) : Int × Int := lkf (vl R w) R (fro R k) (fro R (k + 1)) 0 0 (fro R k) (fro R (k + 1) - fro R k).toNat
def mnf (g : Int → Int) : Int → Int → Nat → Int
  | acc, _, 0 => acc
  | acc, m, n + 1 => mnf g (min acc (g m)) (m + 1) n
theorem mnf_cong {g g' : Int → Int} : ∀ (n : Nat) (acc m : Int), (∀ j, m ≤ j → j < m + n → g j = g' j) → mnf g acc m n = mnf g' acc m n
  | 0, _, _, _ => rfl
  | n + 1, acc, m, h => by
    show mnf g (min acc (g m)) (m + 1) n = mnf g' (min acc (g' m)) (m + 1) n
    rw [h m (by omega) (by omega), mnf_cong n _ (m + 1) (fun j h1 h2 => h j (by omega) (by omega))]
theorem mnf_in {g : Int → Int} : ∀ (n : Nat) (acc m : Int), 0 ≤ acc → (∀ j, m ≤ j → j < m + n → 0 ≤ g j) → 0 ≤ mnf g acc m n ∧ mnf g acc m n ≤ acc
  | 0, acc, _, h, _ => ⟨h, Int.le_refl _⟩
  | n + 1, acc, m, h, h2 => by
    have h3 := h2 m (by omega) (by omega)
    have := mnf_in n (min acc (g m)) (m + 1) (by omega) (fun j j1 j2 => h2 j (by omega) (by omega))
    show 0 ≤ mnf g (min acc (g m)) (m + 1) n ∧ mnf g (min acc (g m)) (m + 1) n ≤ acc
    omega
/-- the least cost of all trees over rows a to b -/
def lc (V : Int → Int) : Nat → Int → Int → Int
  | 0, _, _ => 0
  | f + 1, a, b => if b - a ≤ 1 then 0 else mnf (fun m => lc V f a m + lc V f m b) (lc V f (a + 1) b) (a + 2) (b - a - 2).toNat + sm V a (b - a).toNat
theorem lc_1 {V : Int → Int} {f : Nat} {a b : Int} (h : b - a ≤ 1) : lc V f a b = 0 := by
  cases f with
  | zero => rfl
  | succ f =>
    unfold lc
    rw [if_pos h]
theorem lc_fuel (V : Int → Int) : ∀ (f f' : Nat) (a b : Int), b - a ≤ f → b - a ≤ f' → lc V f a b = lc V f' a b
  | 0, f', a, b, h1, h2 => by rw [lc_1 (f := 0) (by omega), lc_1 (f := f') (by omega)]
  | f + 1, 0, a, b, h1, h2 => by rw [lc_1 (f := 0) (by omega), lc_1 (f := f + 1) (by omega)]
  | f + 1, f' + 1, a, b, h1, h2 => by
    unfold lc
    split
    · rfl
    · rename_i c
      rw [lc_fuel V f f' (a + 1) b (by omega) (by omega), mnf_cong (g' := fun m => lc V f' a m + lc V f' m b) _ _ _ (fun j j1 j2 => by rw [lc_fuel V f f' a j (by omega) (by omega), lc_fuel V f f' j b (by omega) (by omega)])]
theorem lc_in {V : Int → Int} (i : ival V 0 48) : ∀ (f : Nat) (a b : Int), 0 ≤ a → a < b → b ≤ 48 → 0 ≤ lc V f a b ∧ lc V f a b ≤ 4800 * (b - a)
  | 0, a, b, h1, h2, h3 => ⟨Int.le_refl _, by show (0 : Int) ≤ _; omega⟩
  | f + 1, a, b, h1, h2, h3 => by
    unfold lc
    split
    · omega
    · rename_i c
      have h4 := lc_in i f (a + 1) b (by omega) (by omega) h3
      have h5 := mnf_in (g := fun m => lc V f a m + lc V f m b) (b - a - 2).toNat (lc V f (a + 1) b) (a + 2) h4.1 (fun j j1 j2 => by
        have := lc_in i f a j h1 (by omega) (by omega)
        have := lc_in i f j b (by omega) (by omega) h3
        omega)
      have h6 := ival_in (f := V) (a := a) (n := (b - a).toNat) (fun j j1 j2 => i j (by omega) (by omega))
      omega
/-- the cost of rows a to b, out of those of the shorter ones -/
theorem lc_48 {V : Int → Int} {a b : Int} (h1 : 2 ≤ b - a) (h2 : b - a ≤ 48) : lc V 48 a b = mnf (fun m => lc V 48 a m + lc V 48 m b) (lc V 48 (a + 1) b) (a + 2) (b - a - 2).toNat + sm V a (b - a).toNat := by
  show (if b - a ≤ 1 then 0 else mnf (fun m => lc V 47 a m + lc V 47 m b) (lc V 47 (a + 1) b) (a + 2) (b - a - 2).toNat + sm V a (b - a).toNat) = _
  rw [if_neg (by omega), lc_fuel V 47 48 (a + 1) b (by omega) (by omega), mnf_cong (g' := fun m => lc V 48 a m + lc V 48 m b) _ _ _ (fun j j1 j2 => by rw [lc_fuel V 47 48 a j (by omega) (by omega), lc_fuel V 47 48 j b (by omega) (by omega)])]
/-! ===== how many looks it takes: the class ===== -/
def Plob (h : am_H) (n : Nat) (mo we : Int) : Prop := h.1[n]? = some (.inr (4, [.ref (n + 1), .ref (n + 3), .int (iI mo), .int (iI we)]))
/-- one row alone costs no look: its cell is never set -/
def gz (g : Int → Int) : Prop := ∀ x : Int, 0 ≤ x → x < 48 → g (49 * x + (x + 1)) = 0
def Plan (h : am_H) (n : Nat) : Prop := (∃ mo we, h.1[n]? = some (.inr (4, [.ref (n + 1), .ref (n + 3), .int mo, .int we]))) ∧ Hl0 h (n + 1) ∧ ∃ g, oI h (n + 3) 2401 g ∧ gz g
theorem Plan.mv {h h' : am_H} {n : Nat} {S : Nat → Prop} (a : Plan h n) (b : fr S h h') (hq : ∀ x, n ≤ x → x ≤ n + 3 → ¬ S x) : Plan h' n := by
  obtain ⟨⟨mo, we, o⟩, q, g, g1, g2⟩ := a
  exact ⟨⟨mo, we, b.at (hq n (by omega) (by omega)) o⟩, q.fr b (hq _ (by omega) (by omega)) (hq _ (by omega) (by omega)), g, g1.fr b (hq _ (by omega) (by omega)), g2⟩
section PLN
theorem lp_71 {d n0 : Nat} {h : am_H} {Q : am_R → am_H → Prop} {V : Int → Int} {r x2 x3 : Int} {mo we : Value} (hH : Hlv h (n0 + 1) V) (o : h.1[n0]? = some (.inr (4, [.ref (n0 + 1), .ref (n0 + 3), mo, we]))) (i : ival V 0 48) : ∀ (n : Nat) (c a b : Int) {x7 : Value}, c + n = 48 → 0 ≤ c → 0 ≤ a → a < b → b ≤ 48 → b - a ≤ n → inI r ∧ (Q (.inl (some (.int (iI (c + hvn V r n a b))))) h) → am_X (d + 2) 71 9 [.ref n0, .int (iI r), .int (iI x2), .int (iI x3), .int (iI a), .int (iI b), .int (iI c), x7] [] h Q
  | 0, c, a, b, x7, h1, h2, h3, h4, h5, h6, k => by omega
  | n + 1, c, a, b, x7, h1, h2, h3, h4, h5, h6, k => by
    obtain ⟨⟨hr1, hr2⟩, k⟩ := k
    refine ax_iload f71_9 rfl ?_
    refine ax_bipush f71_11 ?_
    refine ax_icmp_ge f71_13 rfl ⟨by omega, by omega⟩ ⟨by omega, by omega⟩ (fun q13 => absurd q13 (by omega)) (fun q13 => ?_)
    refine ax_iload f71_16 rfl ?_
    refine ax_iload f71_18 rfl ?_
    refine ax_isub f71_20 ?_
    refine ax_iconst f71_21 ?_
    refine ax_icmp_ge f71_22 rfl ⟨by omega, by omega⟩ ⟨by omega, by omega⟩ (fun q22 => ?_) (fun q22 => ?_)
    · refine ax_aload_n f71_28 rfl ?_
      refine ax_getf f71_29 o rfl ?_
      refine ax_iload f71_32 rfl ?_
      refine ax_iload f71_34 rfl ?_
      refine ax_cvI (rest := []) f71_36 hH.1 rfl rfl rfl rfl rfl rfl rfl rfl (c_26 hH i h3 h4 h5) ?_
      intro _ e_
      obtain rfl := e_.symm
      clear e_
      obtain ⟨m1, m2⟩ := hlf_in V (a := a) (b := b) (by omega)
      unfold hvn at k
      rw [if_neg (by omega)] at k
      generalize hlf V a b = m at *
      refine ax_istore (ls' := [_, _, _, _, _, _, _, _]) f71_39 (Nat.le_of_ble_eq_true rfl) rfl ?_
      refine ax_iload_n f71_41 rfl ?_
      refine ax_iload f71_42 rfl ?_
      refine ax_icmp_ge f71_44 rfl ⟨by omega, by omega⟩ ⟨by omega, by omega⟩ (fun q44 => ?_) (fun q44 => ?_)
      · refine ax_iload f71_54 rfl ?_
        refine ax_istore (ls' := [_, _, _, _, _, _, _, _]) f71_56 (Nat.le_of_ble_eq_true rfl) rfl ?_
        refine ax_iinc (ls' := [_, _, _, _, _, _, _, _]) f71_58 rfl (Nat.le_of_ble_eq_true rfl) rfl ?_
        refine ax_goto f71_61 rfl ?_
        rw [if_neg (by omega), ← Int.add_assoc] at k
        exact lp_71 hH o i n (c + 1) m b (by omega) (by omega) (by omega) (by omega) (by omega) (by omega) ⟨⟨hr1, hr2⟩, k⟩
      · refine ax_iload f71_47 rfl ?_
        refine ax_istore (ls' := [_, _, _, _, _, _, _, _]) f71_49 (Nat.le_of_ble_eq_true rfl) rfl ?_
        refine ax_goto f71_51 rfl ?_
        refine ax_iinc (ls' := [_, _, _, _, _, _, _, _]) f71_58 rfl (Nat.le_of_ble_eq_true rfl) rfl ?_
        refine ax_goto f71_61 rfl ?_
        rw [if_pos (by omega), ← Int.add_assoc] at k
        exact lp_71 hH o i n (c + 1) a m (by omega) (by omega) (by omega) (by omega) (by omega) (by omega) ⟨⟨hr1, hr2⟩, k⟩
    · refine ax_iload f71_25 rfl ?_
      refine ax_ireturn f71_27 rfl rfl ?_
      unfold hvn at k
      rw [if_pos (by omega), Int.add_zero] at k
      exact k
theorem c_71 {h : am_H} {n : Nat} {V : Int → Int} {mo we : Value} (hH : Hlv h (n + 1) V) (o : h.1[n]? = some (.inr (4, [.ref (n + 1), .ref (n + 3), mo, we]))) (i : ival V 0 48) {z a b : Int} (hr : inI z) (h1 : 0 ≤ a) (h2 : a < b) (h3 : b ≤ 48) : am_X 2 71 0 (am_ent 71 [.ref n, .int (iI z), .int (iI a), .int (iI b)]) [] h (fun r h' => rI r (own V a b z) ∧ h' = h) := by
  show am_X 2 71 0 [.ref n, .int (iI z), .int (iI a), .int (iI b), am_u, am_u, am_u, am_u] [] h _
  refine ax_iload_n f71_0 rfl ?_
  refine ax_istore (ls' := [_, _, _, _, _, _, _, _]) f71_1 (Nat.le_of_ble_eq_true rfl) rfl ?_
  refine ax_iload_n f71_3 rfl ?_
  refine ax_istore (ls' := [_, _, _, _, _, _, _, _]) f71_4 (Nat.le_of_ble_eq_true rfl) rfl ?_
  refine ax_iconst f71_6 ?_
  refine ax_istore (ls' := [_, _, _, _, _, _, _, _]) f71_7 (Nat.le_of_ble_eq_true rfl) rfl ?_
  exact lp_71 (d := 0) hH o i 48 0 a b (by omega) (by omega) h1 h2 h3 (by omega) ⟨hr, rI_of (by rw [Int.zero_add]; rfl), rfl⟩
theorem lp_70 {d n0 p : Nat} {V R : Int → Int} {a b k x3 : Int} (iv : ival V 0 48) (ha : 0 ≤ a) (hb : b ≤ 48) (hd : n0 + 3 < p ∨ p + 4 < n0) : ∀ (n : Nat) (r mo we : Int) {h : am_H} {x7 : Value}, Mead h p R → Hlv h (n0 + 1) V → Plob h n0 mo we → r + n = b → a ≤ r → 0 ≤ mo ∧ mo ≤ 48 → am_X (d + 3) 70 39 [.ref n0, .ref p, .int (iI k), .int (iI x3), .int (iI a), .int (iI b), .int (iI r), x7] [] h (fun r' h' => rV r' ∧ Plob h' n0 (lkf V R a b mo we r n).1 (lkf V R a b mo we r n).2 ∧ fr (fun q => q = n0) h h')
  | 0, r, mo, we, h, x7, hM, hH, o, h1, h2, h3 => by
    have h1 : r = b := by omega
    subst h1
    refine ax_iload f70_39 rfl ?_
    refine ax_iload f70_41 rfl ?_
    refine ax_icmp_ge f70_43 rfl ⟨by omega, by omega⟩ ⟨by omega, by omega⟩ (fun q43 => ?_) (fun q43 => absurd q43 (by omega))
    refine ax_return f70_97 rfl ?_
    exact ⟨rfl, o, fr_rf⟩
  | n + 1, r, mo, we, h, x7, hM, hH, o, h1, h2, h3 => by
    unfold Plob at o
    refine ax_iload f70_39 rfl ?_
    refine ax_iload f70_41 rfl ?_
    refine ax_icmp_ge f70_43 rfl ⟨by omega, by omega⟩ ⟨by omega, by omega⟩ (fun q43 => absurd q43 (by omega)) (fun q43 => ?_)
    refine ax_aload_n f70_46 rfl ?_
    refine ax_iload f70_47 rfl ?_
    refine ax_iload f70_49 rfl ?_
    refine ax_iload f70_51 rfl ?_
    refine ax_cvI (rest := []) f70_53 o rfl rfl rfl rfl rfl rfl rfl rfl (c_71 hH o iv ⟨by omega, by omega⟩ ha (by omega) hb) ?_
    intro _ e_
    obtain rfl := e_.symm
    clear e_
    refine ax_istore (ls' := [_, _, _, _, _, _, _, _]) f70_56 (Nat.le_of_ble_eq_true rfl) rfl ?_
    refine ax_aload_n f70_58 rfl ?_
    refine ax_aload_n f70_59 rfl ?_
    refine ax_getf f70_60 o rfl ?_
    refine ax_iload f70_63 rfl ?_
    have hw := hvn_in V r 48 a b
    have hw2 : own V a b r = hvn V r 48 a b := rfl
    refine ax_max f70_65 (Nat.le_of_ble_eq_true rfl) ⟨by omega, by omega⟩ ⟨by omega, by omega⟩ ?_
    rw [Int.max_def]
    refine ax_putfO f70_68 o rfl rfl rfl rfl (fun h1 o1 r1 => ?_)
    have hM := hM.fr r1 (fun q q1 q2 => by omega)
    have hH := hH.fr r1 (by omega) (by omega)
    have o := o1
    refine ax_aload_n f70_71 rfl ?_
    refine ax_dup f70_72 rfl ?_
    refine ax_getf f70_73 o rfl ?_
    refine ax_iload f70_76 rfl ?_
    refine ax_aload_n f70_78 rfl ?_
    refine ax_iload f70_79 rfl ?_
    refine ax_cvI (rest := [_, _, _]) f70_81 hM.1 rfl rfl rfl rfl rfl rfl rfl rfl (c_44 hM (by omega) (by omega)) ?_
    intro _ e_
    obtain rfl := e_.symm
    clear e_
    refine ax_iconst f70_84 ?_
    refine ax_iadd f70_85 ?_
    refine ax_imul f70_86 ?_
    refine ax_iadd f70_87 ?_
    refine ax_putfO f70_88 o rfl rfl rfl rfl (fun h2 o2 r2 => ?_)
    have hM := hM.fr r2 (fun q q1 q2 => by omega)
    have hH := hH.fr r2 (by omega) (by omega)
    have o := o2
    refine ax_iinc (ls' := [_, _, _, _, _, _, _, _]) f70_91 rfl (Nat.le_of_ble_eq_true rfl) rfl ?_
    refine ax_goto f70_94 rfl ?_
    have e : (if mo ≤ own V a b r then own V a b r else mo) = (if mo < own V a b r then own V a b r else mo) := by split <;> split <;> omega
    rw [e] at o
    have ih := lp_70 (d := d) (k := k) (x3 := x3) (x7 := .int (iI (own V a b r))) iv ha hb hd n (r + 1) (if mo < own V a b r then own V a b r else mo) (we + own V a b r * (R (96 + r) + 1)) hM hH o (by omega) (by omega) (by split <;> omega)
    refine am_X_mono ih (Nat.le_refl _) ?_
    rintro r' h' ⟨g1, g2, g3⟩
    exact ⟨g1, g2, (r1.trans r2).trans g3⟩
theorem c_70 {h : am_H} {n p : Nat} {R : Int → Int} (hP : Plan h n) (hM : Mead h p R) (i : inv R) (hd : n + 3 < p ∨ p + 4 < n) {k y : Int} (k1 : 0 ≤ k) (k2 : k < blk R) (hw : y = 0 ∨ y = 1 ∨ y = 2) : am_X 4 70 0 (am_ent 70 [.ref n, .ref p, .int (iI k), .int (iI y)]) [] h (fun r h' => rV r ∧ Plob h' n (lkb R y k).1 (lkb R y k).2 ∧ Hl0 h' (n + 1) ∧ fr (fun q => n ≤ q ∧ q ≤ n + 2) h h') := by
  show am_X 4 70 0 [.ref n, .ref p, .int (iI k), .int (iI y), am_u, am_u, am_u, am_u] [] h _
  have hb12 := i.b12
  obtain ⟨⟨mo, we, o⟩, hH, _⟩ := hP
  refine ax_aload_n f70_0 rfl ?_
  refine ax_iload_n f70_1 rfl ?_
  refine ax_cvI (rest := []) f70_2 hM.1 rfl rfl rfl rfl rfl rfl rfl rfl (c_50 hM i.ff k1 (by omega)) ?_
  intro _ e_
  obtain rfl := e_.symm
  clear e_
  refine ax_istore (ls' := [_, _, _, _, _, _, _, _]) f70_5 (Nat.le_of_ble_eq_true rfl) rfl ?_
  refine ax_aload_n f70_7 rfl ?_
  refine ax_iload_n f70_8 rfl ?_
  refine ax_iconst f70_9 ?_
  refine ax_iadd f70_10 ?_
  refine ax_cvI (rest := []) f70_11 hM.1 rfl rfl rfl rfl rfl rfl rfl rfl (c_50 hM i.ff (by omega) (by omega)) ?_
  intro _ e_
  obtain rfl := e_.symm
  clear e_
  refine ax_istore (ls' := [_, _, _, _, _, _, _, _]) f70_14 (Nat.le_of_ble_eq_true rfl) rfl ?_
  refine ax_aload_n f70_16 rfl ?_
  refine ax_iconst f70_17 ?_
  refine ax_putfO f70_18 o rfl rfl rfl rfl (fun h1 o1 r1 => ?_)
  refine ax_aload_n f70_21 rfl ?_
  refine ax_iconst f70_22 ?_
  refine ax_putfO f70_23 o1 rfl rfl rfl rfl (fun h2 o2 r2 => ?_)
  have hM := (hM.fr r1 (fun q q1 q2 => by omega)).fr r2 (fun q q1 q2 => by omega)
  have hH := (hH.fr r1 (by omega) (by omega)).fr r2 (by omega) (by omega)
  refine ax_aload_n f70_26 rfl ?_
  refine ax_getf f70_27 o2 rfl ?_
  refine ax_aload_n f70_30 rfl ?_
  refine ax_iload_n f70_31 rfl ?_
  refine ax_cvV (rest := []) f70_32 hH.1 rfl rfl rfl rfl rfl rfl rfl rfl (c_24 hH hM hw (by omega)) ?_
  rintro h4 ⟨hH, f4⟩
  have hM := hM.fr f4 (fun q q1 q2 => by omega)
  have o4 := f4.at (q := n) (by omega) o2
  refine ax_iload f70_35 rfl ?_
  refine ax_istore (ls' := [_, _, _, _, _, _, _, _]) f70_37 (Nat.le_of_ble_eq_true rfl) rfl ?_
  obtain ⟨b1, b2, b3⟩ := fro_lt i.ff k1 k2
  have b4 := (fro_sp i.ff k).1
  have b5 := (fro_sp i.ff (k + 1)).2.1
  have ih := lp_70 (d := 1) (k := k) (x3 := y) (x7 := am_u) (vl_ival i y) b4 b5 hd (fro R (k + 1) - fro R k).toNat (fro R k) 0 0 hM hH o4 (by omega) (by omega) (by omega)
  refine am_X_mono ih (Nat.le_refl _) ?_
  rintro r' h' ⟨g1, g2, g3⟩
  refine ⟨g1, g2, (hH.fr g3 (by omega) (by omega)).z, ?_⟩
  have F := r1.mono (T := fun q => n ≤ q ∧ q ≤ n + 2) (fun x e => by omega)
  have F := F.trans (r2.mono (T := fun q => n ≤ q ∧ q ≤ n + 2) (fun x e => by omega))
  have F := F.trans (f4.mono (T := fun q => n ≤ q ∧ q ≤ n + 2) (fun x e => by omega))
  exact F.trans (g3.mono (fun x e => by omega))
theorem c_74 {h : am_H} {a b : Int} (h1 : 0 ≤ a) (h2 : a < b) (h3 : b ≤ 48) : am_X 0 74 0 (am_ent 74 [.int (iI a), .int (iI b)]) [] h (fun r h' => rI r 1 ∧ h' = h) := by
  show am_X 0 74 0 [.int (iI a), .int (iI b)] [] h _
  refine ax_iload_n f74_0 rfl ?_
  refine ax_if_lt f74_1 rfl ⟨by omega, by omega⟩ (fun q1 => absurd q1 (by omega)) (fun q1 => ?_)
  refine ax_iload_n f74_4 rfl ?_
  refine ax_iload_n f74_5 rfl ?_
  refine ax_icmp_ge f74_6 rfl ⟨by omega, by omega⟩ ⟨by omega, by omega⟩ (fun q6 => absurd q6 (by omega)) (fun q6 => ?_)
  refine ax_iload_n f74_9 rfl ?_
  refine ax_bipush f74_10 ?_
  refine ax_icmp_gt f74_12 rfl ⟨by omega, by omega⟩ ⟨by omega, by omega⟩ (fun q12 => absurd q12 (by omega)) (fun q12 => ?_)
  refine ax_iconst f74_15 ?_
  refine ax_goto f74_16 rfl ?_
  refine ax_ireturn f74_20 rfl rfl ?_
  exact ⟨rI_of rfl, rfl⟩
theorem c_75 {h : am_H} {n : Nat} {mo we : Value} {g : Int → Int} (o : h.1[n]? = some (.inr (4, [.ref (n + 1), .ref (n + 3), mo, we]))) (g1 : oI h (n + 3) 2401 g) {a b : Int} (h1 : 0 ≤ a) (h2 : a < b) (h3 : b ≤ 48) : am_X 1 75 0 (am_ent 75 [.ref n, .int (iI a), .int (iI b)]) [] h (fun r h' => rI r (g (49 * a + b)) ∧ h' = h) := by
  show am_X 1 75 0 [.ref n, .int (iI a), .int (iI b)] [] h _
  refine ax_iload_n f75_0 rfl ?_
  refine ax_iload_n f75_1 rfl ?_
  refine ax_csI (rest := []) f75_2 (Or.inl rfl) rfl rfl rfl rfl rfl rfl (c_74 h1 h2 h3) ?_
  intro _ e_
  obtain rfl := e_.symm
  clear e_
  refine ax_if_eq f75_5 rfl ⟨by omega, by omega⟩ (fun q5 => absurd q5 (by omega)) (fun q5 => ?_)
  refine ax_aload_n f75_8 rfl ?_
  refine ax_getf f75_9 o rfl ?_
  refine ax_bipush f75_12 ?_
  refine ax_iload_n f75_14 rfl ?_
  refine ax_imul f75_15 ?_
  refine ax_iload_n f75_16 rfl ?_
  refine ax_iadd f75_17 ?_
  refine ax_ialdO f75_18 (by decide) g1 (by omega) (by omega) rfl ?_
  refine ax_goto f75_19 rfl ?_
  refine ax_ireturn f75_23 rfl rfl ?_
  exact ⟨rI_of rfl, rfl⟩
theorem c_76 {h : am_H} {n : Nat} {mo we : Value} {g : Int → Int} (o : h.1[n]? = some (.inr (4, [.ref (n + 1), .ref (n + 3), mo, we]))) (g1 : oI h (n + 3) 2401 g) {a b v : Int} (h1 : 0 ≤ a) (h2 : a < b) (h3 : b ≤ 48) : am_X 1 76 0 (am_ent 76 [.ref n, .int (iI a), .int (iI b), .int (iI v)]) [] h (fun r h' => rV r ∧ oI h' (n + 3) 2401 (uZ g (49 * a + b) v) ∧ fr (fun q => q = n + 3) h h') := by
  show am_X 1 76 0 [.ref n, .int (iI a), .int (iI b), .int (iI v)] [] h _
  refine ax_iload_n f76_0 rfl ?_
  refine ax_iload_n f76_1 rfl ?_
  refine ax_csI (rest := []) f76_2 (Or.inl rfl) rfl rfl rfl rfl rfl rfl (c_74 h1 h2 h3) ?_
  intro _ e_
  obtain rfl := e_.symm
  clear e_
  refine ax_if_eq f76_5 rfl ⟨by omega, by omega⟩ (fun q5 => absurd q5 (by omega)) (fun q5 => ?_)
  refine ax_aload_n f76_8 rfl ?_
  refine ax_getf f76_9 o rfl ?_
  refine ax_bipush f76_12 ?_
  refine ax_iload_n f76_14 rfl ?_
  refine ax_imul f76_15 ?_
  refine ax_iload_n f76_16 rfl ?_
  refine ax_iadd f76_17 ?_
  refine ax_iload_n f76_18 rfl ?_
  refine ax_iastO f76_19 g1 (by omega) (by omega) rfl (fun h1 o1 r1 => ?_)
  refine ax_return f76_20 rfl ?_
  exact ⟨rfl, o1, r1⟩
theorem lp_73 {d n0 : Nat} {h : am_H} {Q : am_R → am_H → Prop} {V g : Int → Int} {a b : Int} {mo we : Value} (o : h.1[n0]? = some (.inr (4, [.ref (n0 + 1), .ref (n0 + 3), mo, we]))) (g1 : oI h (n0 + 3) 2401 g) (i : ival V 0 48) (hab : 0 ≤ a ∧ a < b ∧ b ≤ 48) (hg : ∀ x y, a ≤ x → x < y → y ≤ b → y - x < b - a → g (49 * x + y) = lc V 48 x y) : ∀ (n : Nat) (m acc : Int), m + n = b → a < m → 0 ≤ acc ∧ acc ≤ 1000000 → (am_X (d + 2) 73 46 [.ref n0, .int (iI a), .int (iI b), .int (iI (mnf (fun m => lc V 48 a m + lc V 48 m b) acc m n)), .int (iI b)] [] h Q) → am_X (d + 2) 73 14 [.ref n0, .int (iI a), .int (iI b), .int (iI acc), .int (iI m)] [] h Q
  | 0, m, acc, q1, q2, q3, k => by
    have q1 : m = b := by omega
    subst q1
    refine ax_iload f73_14 rfl ?_
    refine ax_iload_n f73_16 rfl ?_
    refine ax_icmp_ge f73_17 rfl ⟨by omega, by omega⟩ ⟨by omega, by omega⟩ (fun q17 => ?_) (fun q17 => absurd q17 (by omega))
    exact k
  | n + 1, m, acc, q1, q2, q3, k => by
    obtain ⟨h1, h2, h3⟩ := id hab
    refine ax_iload f73_14 rfl ?_
    refine ax_iload_n f73_16 rfl ?_
    refine ax_icmp_ge f73_17 rfl ⟨by omega, by omega⟩ ⟨by omega, by omega⟩ (fun q17 => absurd q17 (by omega)) (fun q17 => ?_)
    refine ax_iload_n f73_20 rfl ?_
    refine ax_aload_n f73_21 rfl ?_
    refine ax_iload_n f73_22 rfl ?_
    refine ax_iload f73_23 rfl ?_
    refine ax_cvI (rest := [_]) f73_25 o rfl rfl rfl rfl rfl rfl rfl rfl (c_75 o g1 h1 (by omega) (by omega)) ?_
    intro _ e_
    obtain rfl := e_.symm
    clear e_
    refine ax_aload_n f73_28 rfl ?_
    refine ax_iload f73_29 rfl ?_
    refine ax_iload_n f73_31 rfl ?_
    refine ax_cvI (rest := [_, _]) f73_32 o rfl rfl rfl rfl rfl rfl rfl rfl (c_75 o g1 (by omega) (by omega) h3) ?_
    intro _ e_
    obtain rfl := e_.symm
    clear e_
    rw [hg a m (by omega) (by omega) (by omega) (by omega), hg m b (by omega) (by omega) (by omega) (by omega)]
    have l1 := lc_in i 48 a m h1 (by omega) (by omega)
    have l2 := lc_in i 48 m b (by omega) (by omega) h3
    refine ax_iadd f73_35 ?_
    refine ax_min f73_36 (Nat.le_of_ble_eq_true rfl) ⟨by omega, by omega⟩ ⟨by omega, by omega⟩ ?_
    refine ax_istore_n (ls' := [_, _, _, _, _]) f73_39 (Nat.le_of_ble_eq_true rfl) rfl ?_
    refine ax_iinc (ls' := [_, _, _, _, _]) f73_40 rfl (Nat.le_of_ble_eq_true rfl) rfl ?_
    refine ax_goto f73_43 rfl ?_
    exact lp_73 o g1 i hab hg n (m + 1) _ (by omega) (by omega) (by omega) k
theorem c_73 {h : am_H} {n : Nat} {mo we : Value} {V g : Int → Int} (o : h.1[n]? = some (.inr (4, [.ref (n + 1), .ref (n + 3), mo, we]))) (g1 : oI h (n + 3) 2401 g) (hH : Hlv h (n + 1) V) (i : ival V 0 48) {a b : Int} (h1 : 0 ≤ a) (h2 : 2 ≤ b - a) (h3 : b ≤ 48) (hg : ∀ x y, a ≤ x → x < y → y ≤ b → y - x < b - a → g (49 * x + y) = lc V 48 x y) : am_X 2 73 0 (am_ent 73 [.ref n, .int (iI a), .int (iI b)]) [] h (fun r h' => rI r (lc V 48 a b) ∧ h' = h) := by
  show am_X 2 73 0 [.ref n, .int (iI a), .int (iI b), am_u, am_u] [] h _
  refine ax_aload_n f73_0 rfl ?_
  refine ax_iload_n f73_1 rfl ?_
  refine ax_iconst f73_2 ?_
  refine ax_iadd f73_3 ?_
  refine ax_iload_n f73_4 rfl ?_
  refine ax_cvI (rest := []) f73_5 o rfl rfl rfl rfl rfl rfl rfl rfl (c_75 o g1 (by omega) (by omega) h3) ?_
  intro _ e_
  obtain rfl := e_.symm
  clear e_
  rw [hg (a + 1) b (by omega) (by omega) (by omega) (by omega)]
  have l1 := lc_in i 48 (a + 1) b (by omega) (by omega) h3
  refine ax_istore_n (ls' := [_, _, _, _, _]) f73_8 (Nat.le_of_ble_eq_true rfl) rfl ?_
  refine ax_iload_n f73_9 rfl ?_
  refine ax_iconst f73_10 ?_
  refine ax_iadd f73_11 ?_
  refine ax_istore (ls' := [_, _, _, _, _]) f73_12 (Nat.le_of_ble_eq_true rfl) rfl ?_
  refine lp_73 (d := 0) o g1 i ⟨h1, by omega, h3⟩ hg (b - a - 2).toNat (a + 2) _ (by omega) (by omega) (by omega) ?_
  refine ax_iload_n f73_46 rfl ?_
  refine ax_aload_n f73_47 rfl ?_
  refine ax_getf f73_48 o rfl ?_
  refine ax_iload_n f73_51 rfl ?_
  refine ax_iload_n f73_52 rfl ?_
  refine ax_cvI (rest := [_]) f73_53 hH.1 rfl rfl rfl rfl rfl rfl rfl rfl (c_25 hH h1 (by omega) h3) ?_
  intro _ e_
  obtain rfl := e_.symm
  clear e_
  refine ax_iadd f73_56 ?_
  refine ax_ireturn f73_57 rfl rfl ?_
  exact ⟨rI_of (lc_48 h2 (by omega)).symm, rfl⟩
end PLN
