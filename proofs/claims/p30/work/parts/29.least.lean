/-! ===== the least cost of all trees: the class ===== -/
section LEA
def TB (V g : Int → Int) (s e L A : Int) : Prop := ∀ x y, s ≤ x → x < y → y ≤ e → (y - x < L ∨ (y - x = L ∧ x < A)) → g (49 * x + y) = lc V 48 x y
theorem lp_72c {d n0 p : Nat} {h : am_H} {Q : am_R → am_H → Prop} {V : Int → Int} {k0 s e L : Int} {mo we : Value} (o : h.1[n0]? = some (.inr (4, [.ref (n0 + 1), .ref (n0 + 3), mo, we]))) (hH : Hlv h (n0 + 1) V) (i : ival V 0 48) (hse : 0 ≤ s ∧ s < e ∧ e ≤ 48) (hL : 2 ≤ L ∧ L ≤ e - s) : ∀ (n : Nat) (r : Int), r + n = e - L + 1 → s ≤ r → ∀ g : Int → Int, oI h (n0 + 3) 2401 g → gz g → TB V g s e L r →
    (∀ h' g', fr (fun q => q = n0 + 3) h h' → oI h' (n0 + 3) 2401 g' → gz g' → TB V g' s e (L + 1) s → am_X (d + 3) 72 77 [.ref n0, .ref p, .int (iI k0), .int (iI s), .int (iI e), .int (iI L), .int (iI (e - L + 1))] [] h' Q) → am_X (d + 3) 72 39 [.ref n0, .ref p, .int (iI k0), .int (iI s), .int (iI e), .int (iI L), .int (iI r)] [] h Q
  | 0, r, h1, h2, g, g1, gn, ht, k => by
    have h1 : r = e - L + 1 := by omega
    subst h1
    refine ax_iload f72_39 rfl ?_
    refine ax_iload f72_41 rfl ?_
    refine ax_iadd f72_43 ?_
    refine ax_iload f72_44 rfl ?_
    refine ax_icmp_gt f72_46 rfl ⟨by omega, by omega⟩ ⟨by omega, by omega⟩ (fun q46 => ?_) (fun q46 => absurd q46 (by omega))
    exact k h g fr_rf g1 gn (fun x y x1 x2 x3 x4 => ht x y x1 x2 x3 (by omega))
  | n + 1, r, h1, h2, g, g1, gn, ht, k => by
    refine ax_iload f72_39 rfl ?_
    refine ax_iload f72_41 rfl ?_
    refine ax_iadd f72_43 ?_
    refine ax_iload f72_44 rfl ?_
    refine ax_icmp_gt f72_46 rfl ⟨by omega, by omega⟩ ⟨by omega, by omega⟩ (fun q46 => absurd q46 (by omega)) (fun q46 => ?_)
    refine ax_aload_n f72_49 rfl ?_
    refine ax_iload f72_50 rfl ?_
    refine ax_iload f72_52 rfl ?_
    refine ax_iload f72_54 rfl ?_
    refine ax_iadd f72_56 ?_
    refine ax_aload_n f72_57 rfl ?_
    refine ax_iload f72_58 rfl ?_
    refine ax_iload f72_60 rfl ?_
    refine ax_iload f72_62 rfl ?_
    refine ax_iadd f72_64 ?_
    refine ax_cvI (rest := [_, _, _]) f72_65 o rfl rfl rfl rfl rfl rfl rfl rfl (c_73 o g1 hH i (by omega) (by omega) (by omega) (fun x y x1 x2 x3 x4 => ht x y (by omega) x2 (by omega) (by omega))) ?_
    intro _ e_
    obtain rfl := e_.symm
    clear e_
    refine ax_cvV (rest := []) f72_68 o rfl rfl rfl rfl rfl rfl rfl rfl (c_76 o g1 (by omega) (by omega) (by omega)) ?_
    rintro h2_ ⟨g2, f2⟩
    refine ax_iinc (ls' := [_, _, _, _, _, _, _]) f72_71 rfl (Nat.le_of_ble_eq_true rfl) rfl ?_
    refine ax_goto f72_74 rfl ?_
    refine lp_72c (f2.at (by omega) o) (hH.fr f2 (by omega) (by omega)) i hse hL n (r + 1) (by omega) (by omega) _ g2 ?_ ?_ ?_
    · intro x x1 x2
      unfold uZ
      rw [if_neg (by omega)]
      exact gn x x1 x2
    · intro x y x1 x2 x3 x4
      unfold uZ
      split
      · rename_i ex
        have : x = r := by omega
        subst this
        rw [show y = x + L by omega]
      · exact ht x y x1 x2 x3 (by omega)
    · intro h9 g9 f9 a9 n9 b9
      exact k h9 g9 (f2.trans f9) a9 n9 b9
theorem lp_72b {d n0 p : Nat} {h : am_H} {Q : am_R → am_H → Prop} {V : Int → Int} {k0 s e : Int} {mo we : Value} (o : h.1[n0]? = some (.inr (4, [.ref (n0 + 1), .ref (n0 + 3), mo, we]))) (hH : Hlv h (n0 + 1) V) (i : ival V 0 48) (hse : 0 ≤ s ∧ s < e ∧ e ≤ 48) : ∀ (n : Nat) (L : Int) {x6 : Value}, L + n = max (e - s + 1) 2 → 2 ≤ L → ∀ g : Int → Int, oI h (n0 + 3) 2401 g → gz g → TB V g s e L s →
    (∀ h' g' x', fr (fun q => q = n0 + 3) h h' → oI h' (n0 + 3) 2401 g' → gz g' → TB V g' s e (max (e - s + 1) 2) s → am_X (d + 3) 72 83 [.ref n0, .ref p, .int (iI k0), .int (iI s), .int (iI e), .int (iI (max (e - s + 1) 2)), x'] [] h' Q) → am_X (d + 3) 72 27 [.ref n0, .ref p, .int (iI k0), .int (iI s), .int (iI e), .int (iI L), x6] [] h Q
  | 0, L, x6, h1, hL, g, g1, gn, ht, k => by
    have h1 : L = max (e - s + 1) 2 := by omega
    rw [← h1] at k
    refine ax_iload f72_27 rfl ?_
    refine ax_iload f72_29 rfl ?_
    refine ax_iload_n f72_31 rfl ?_
    refine ax_isub f72_32 ?_
    refine ax_icmp_gt f72_33 rfl ⟨by omega, by omega⟩ ⟨by omega, by omega⟩ (fun q33 => ?_) (fun q33 => absurd q33 (by omega))
    exact k h g _ fr_rf g1 gn ht
  | n + 1, L, x6, h1, hL, g, g1, gn, ht, k => by
    refine ax_iload f72_27 rfl ?_
    refine ax_iload f72_29 rfl ?_
    refine ax_iload_n f72_31 rfl ?_
    refine ax_isub f72_32 ?_
    refine ax_icmp_gt f72_33 rfl ⟨by omega, by omega⟩ ⟨by omega, by omega⟩ (fun q33 => absurd q33 (by omega)) (fun q33 => ?_)
    refine ax_iload_n f72_36 rfl ?_
    refine ax_istore (ls' := [_, _, _, _, _, _, _]) f72_37 (Nat.le_of_ble_eq_true rfl) rfl ?_
    refine lp_72c (d := d) o hH i hse (L := L) ⟨hL, by omega⟩ (e - s - L + 1).toNat s (by omega) (by omega) g g1 gn ht ?_
    intro h8 g8 f8 a8 n8 b8
    refine ax_iinc (ls' := [_, _, _, _, _, _, _]) f72_77 rfl (Nat.le_of_ble_eq_true rfl) rfl ?_
    refine ax_goto f72_80 rfl ?_
    refine lp_72b (f8.at (by omega) o) (hH.fr f8 (by omega) (by omega)) i hse n (L + 1) (by omega) (by omega) _ a8 n8 b8 ?_
    intro h9 g9 x9 f9 a9 n9 b9
    exact k h9 g9 x9 (f8.trans f9) a9 n9 b9
theorem c_72 {h : am_H} {n p : Nat} {R : Int → Int} (hP : Plan h n) (hM : Mead h p R) (i : inv R) (hd : n + 3 < p ∨ p + 4 < n) {k : Int} (k1 : 0 ≤ k) (k2 : k < blk R) : am_X 4 72 0 (am_ent 72 [.ref n, .ref p, .int (iI k)]) [] h (fun r h' => rI r (lc (vl R 2) 48 (fro R k) (fro R (k + 1))) ∧ Plan h' n ∧ fr (fun q => n ≤ q ∧ q ≤ n + 3) h h') := by
  show am_X 4 72 0 [.ref n, .ref p, .int (iI k), am_u, am_u, am_u, am_u] [] h _
  have hb12 := i.b12
  obtain ⟨⟨mo, we, o⟩, hH, g, g1, gn⟩ := hP
  refine ax_aload_n f72_0 rfl ?_
  refine ax_iload_n f72_1 rfl ?_
  refine ax_cvI (rest := []) f72_2 hM.1 rfl rfl rfl rfl rfl rfl rfl rfl (c_50 hM i.ff k1 (by omega)) ?_
  intro _ e_
  obtain rfl := e_.symm
  clear e_
  refine ax_istore_n (ls' := [_, _, _, _, _, _, _]) f72_5 (Nat.le_of_ble_eq_true rfl) rfl ?_
  refine ax_aload_n f72_6 rfl ?_
  refine ax_iload_n f72_7 rfl ?_
  refine ax_iconst f72_8 ?_
  refine ax_iadd f72_9 ?_
  refine ax_cvI (rest := []) f72_10 hM.1 rfl rfl rfl rfl rfl rfl rfl rfl (c_50 hM i.ff (by omega) (by omega)) ?_
  intro _ e_
  obtain rfl := e_.symm
  clear e_
  refine ax_istore (ls' := [_, _, _, _, _, _, _]) f72_13 (Nat.le_of_ble_eq_true rfl) rfl ?_
  refine ax_aload_n f72_15 rfl ?_
  refine ax_getf f72_16 o rfl ?_
  refine ax_aload_n f72_19 rfl ?_
  refine ax_iconst f72_20 ?_
  refine ax_cvV (rest := []) f72_21 hH.1 rfl rfl rfl rfl rfl rfl rfl rfl (c_24 hH hM (Or.inr (Or.inr rfl)) (by omega)) ?_
  rintro h4 ⟨hH, f4⟩
  have o := f4.at (q := n) (by omega) o
  have g1 := g1.fr f4 (by omega)
  refine ax_iconst f72_24 ?_
  refine ax_istore (ls' := [_, _, _, _, _, _, _]) f72_25 (Nat.le_of_ble_eq_true rfl) rfl ?_
  obtain ⟨b1, b2, b3⟩ := fro_lt i.ff k1 k2
  have b4 := (fro_sp i.ff k).1
  have b5 := (fro_sp i.ff (k + 1)).2.1
  have hv := vl_ival i 2
  refine lp_72b (d := 1) (V := vl R 2) o hH hv ⟨b4, b3, b5⟩ (max (fro R (k + 1) - fro R k + 1) 2 - 2).toNat 2 (by omega) (by omega) g g1 gn (fun x y x1 x2 x3 x4 => by rw [lc_1 (by omega), show y = x + 1 by omega]; exact gn x (by omega) (by omega)) ?_
  intro h6 g6 x6 f6 a6 n6 t6
  have o6 := f6.at (q := n) (by omega) o
  refine ax_aload_n f72_83 rfl ?_
  refine ax_iload_n f72_84 rfl ?_
  refine ax_iload f72_85 rfl ?_
  refine ax_cvI (rest := []) f72_87 o6 rfl rfl rfl rfl rfl rfl rfl rfl (c_75 o6 a6 b4 b3 b5) ?_
  intro _ e_
  obtain rfl := e_.symm
  clear e_
  refine ax_ireturn f72_90 rfl rfl ?_
  refine ⟨rI_of (t6 _ _ (by omega) b3 (by omega) (by omega)), ⟨⟨_, _, o6⟩, (hH.fr f6 (by omega) (by omega)).z, _, a6, n6⟩, ?_⟩
  have F := f4.mono (T := fun q => n ≤ q ∧ q ≤ n + 3) (fun x e => by omega)
  exact F.trans (f6.mono (fun x e => by omega))
end LEA
