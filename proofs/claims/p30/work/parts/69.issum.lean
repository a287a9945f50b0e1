/-! ===== whether a sum can be that of some rows ===== -/
section ISM
theorem wB_00 (S : Int → Int) : wB S 0 = lN (bN S 64) := by
  unfold wB
  rw [show (fun j : Int => S (64 * 0 + j)) = S from funext fun j => by rw [show (64 * 0 + j : Int) = j by omega]]
theorem wB_m0 {S : Int → Int} {w : Int} (h0 : 0 ≤ w) (h1 : w < 64) : wB S 0 ||| (wB S 0 <<< ((iI w).toInt64 &&& 63)) = wB (sba S w) 0 := by
  obtain ⟨r, rfl⟩ : ∃ r : Nat, w = r := ⟨w.toNat, by omega⟩
  have hr : r < 64 := by omega
  have l : ∀ g : Int → Int, bN g 64 < 2 ^ 64 := fun g => bN_lt g 64
  rw [wB_00, wB_00, iI_nat, wb_shl _ hr, wb_mod (bN S 64 * 2 ^ r), wb_or (l _) (Nat.mod_lt _ (by decide))]
  apply lN_tb
  intro j hj
  rw [Nat.testBit_or, Nat.testBit_mod_two_pow, Nat.testBit_mul_two_pow, bN_tb, bN_tb, bN_tb]
  unfold sba
  by_cases c3 : r ≤ j
  · obtain ⟨x, hx⟩ : ∃ x : Nat, x = j - r := ⟨_, rfl⟩
    have h64b : x < 64 := by omega
    have c4 : (r : Int) ≤ (j : Int) := by omega
    rw [← hx, show (j : Int) - (r : Int) = (x : Int) by omega]
    by_cases c1 : S j = 1 <;> by_cases c2 : S x = 1 <;> simp [hj, c1, c2, c3, c4, h64b]
  · have c4 : ¬ (r : Int) ≤ (j : Int) := by omega
    by_cases c1 : S j = 1 <;> simp [hj, c1, c3, c4]
theorem wB_big {S : Int → Int} {w : Int} (h1 : 64 ≤ w) : wB S 0 ||| Int64.ofNat ((0 : Fin 2) : Nat) = wB (sba S w) 0 := by
  have l : ∀ g : Int → Int, bN g 64 < 2 ^ 64 := fun g => bN_lt g 64
  rw [show Int64.ofNat ((0 : Fin 2) : Nat) = lN 0 from rfl, wB_00, wB_00, wb_or (l _) (by decide)]
  apply lN_tb
  intro j hj
  rw [Nat.testBit_or, bN_tb, bN_tb]
  unfold sba
  have c4 : ¬ w ≤ (j : Int) := by omega
  by_cases c1 : S j = 1 <;> simp [hj, c1, c4]
theorem sba_1 {S : Int → Int} (z : sz S) {w v : Int} : sba S w v = 1 ↔ (S v = 1 ∨ S (v - w) = 1) := by
  unfold sba
  constructor
  · intro h
    by_cases c : S v = 1 ∨ (w ≤ v ∧ S (v - w) = 1)
    · exact c.elim Or.inl (fun y => Or.inr y.2)
    · rw [if_neg c] at h; omega
  · intro h
    rw [if_pos]
    rcases h with h | h
    · exact Or.inl h
    · refine Or.inr ⟨?_, h⟩
      by_cases c : w ≤ v
      · exact c
      · have := (z (v - w)).1 (by omega); omega
theorem ssf_sym {R : Int → Int} : ∀ (n : Nat) (S : Int → Int) (r t : Int), sz S → (∀ v, S v = 1 ↔ S (t - v) = 1) → (∀ j, r ≤ j → j < r + n → 0 ≤ R j) → ∀ v, ssf R S r n v = 1 ↔ ssf R S r n (t + sm R r n - v) = 1
  | 0, S, r, t, z, h, hR, v => by
    rw [sm_0, Int.add_zero]
    exact h v
  | n + 1, S, r, t, z, h, hR, v => by
    have hr := hR r (Int.le_refl _) (by omega)
    have ih := ssf_sym n (sba S (R r)) (r + 1) (t + R r) (sz_a z hr) (fun v => by
      rw [sba_1 z, sba_1 z, h v, h (v - R r), show t + R r - v - R r = t - v by omega, show t - (v - R r) = t + R r - v by omega]
      exact Or.comm) (fun j j1 j2 => hR j (by omega) (by omega)) v
    rw [sm_1, ← Int.add_assoc]
    exact ih
theorem csm_sym {R : Int → Int} (iw : ibt R 0 48 1 99) {x y v u : Int} (h1 : 0 ≤ x) (h2 : x ≤ y) (h3 : y ≤ 48) (v0 : 0 ≤ v) (v1 : v ≤ bok R x y) (hu : u = v ∨ u = bok R x y - v) : csm R x y v = if ssf R sb0 x (y - x).toNat u = 1 then 1 else 0 := by
  have hR : ∀ j, x ≤ j → j < x + ((y - x).toNat : Nat) → 0 ≤ R j := fun j j1 j2 => by have := iw j (by omega) (by omega); rw [Int.zero_add] at this; omega
  have z := (sz_f (R := R) (y - x).toNat sb0 x sz_0 hR v).2
  have e : csm R x y v = ssf R sb0 x (y - x).toNat v := if_pos ⟨v0, v1⟩
  have s := ssf_sym (R := R) (y - x).toNat sb0 x 0 sz_0 (fun v => by unfold sb0; by_cases c : v = 0 <;> simp [c] <;> omega) hR v
  rw [Int.zero_add] at s
  have hb : bok R x y = sm R x (y - x).toNat := rfl
  have k : ssf R sb0 x (y - x).toNat v = 1 ↔ ssf R sb0 x (y - x).toNat u = 1 := by
    rcases hu with hu | hu
    · rw [hu]
    · rw [hu, hb]; exact s
  rw [e]
  by_cases c : ssf R sb0 x (y - x).toNat u = 1
  · rw [if_pos c]; exact k.mpr c
  · rw [if_neg c]
    rcases z with z | z
    · exact z
    · exact absurd (k.mp z) c
theorem l2i_if {c : Prop} [Decidable c] : (if c then (1 : Int64) else 0).toInt32 = iI (if c then 1 else 0) := by
  split <;> decide
theorem lp_13 {d : Nat} {Q : am_R → am_H → Prop} {R : Int → Int} {h : am_H} (w : oI h 120 48 R) (i : inv R) {x y k T A v : Int} (hx : 0 ≤ x ∧ y ≤ 48) : ∀ (n : Nat) (S : Int → Int) (r : Int), r + n = y → x ≤ r → (kk : am_X d 13 115 [.ref 0, .ref 120, .int (iI x), .int (iI y), .int (iI k), .int (iI T), .int (iI A), .int (iI v), .long (wB (ssf R S r n) 0), am_u, .int (iI y)] [] h Q) → am_X d 13 78 [.ref 0, .ref 120, .int (iI x), .int (iI y), .int (iI k), .int (iI T), .int (iI A), .int (iI v), .long (wB S 0), am_u, .int (iI r)] [] h Q
  | 0, S, r, h1, h2, kk => by
    have h1 : r = y := by omega
    subst h1
    refine ax_iload f13_78 rfl ?_
    refine ax_iload_n f13_80 rfl ?_
    refine ax_icmp_ge f13_81 rfl ⟨by omega, by omega⟩ ⟨by omega, by omega⟩ (fun q81 => ?_) (fun q81 => absurd q81 (by omega))
    exact kk
  | n + 1, S, r, h1, h2, kk => by
    have iw := i.wt (r := r) (by omega) (by omega)
    refine ax_iload f13_78 rfl ?_
    refine ax_iload_n f13_80 rfl ?_
    refine ax_icmp_ge f13_81 rfl ⟨by omega, by omega⟩ ⟨by omega, by omega⟩ (fun q81 => absurd q81 (by omega)) (fun q81 => ?_)
    refine ax_lload f13_84 rfl ?_
    refine ax_aload_n f13_86 rfl ?_
    refine ax_iload f13_87 rfl ?_
    refine ax_ialdO f13_89 (by decide) w (by omega) (by omega) rfl ?_
    refine ax_bipush f13_90 ?_
    refine ax_icmp_ge f13_92 rfl ⟨by omega, by omega⟩ ⟨by omega, by omega⟩ (fun q92 => ?_) (fun q92 => ?_)
    · refine ax_lconst f13_105 ?_
      refine ax_lor f13_106 ?_
      rw [wB_big (by omega)]
      refine ax_lstore (ls' := [_, _, _, _, _, _, _, _, _, _, _]) f13_107 (Nat.le_of_ble_eq_true rfl) rfl ?_
      refine ax_iinc (ls' := [_, _, _, _, _, _, _, _, _, _, _]) f13_109 rfl (Nat.le_of_ble_eq_true rfl) rfl ?_
      refine ax_goto f13_112 rfl ?_
      exact lp_13 w i hx n (sba S (R r)) (r + 1) (by omega) (by omega) kk
    · refine ax_lload f13_95 rfl ?_
      refine ax_aload_n f13_97 rfl ?_
      refine ax_iload f13_98 rfl ?_
      refine ax_ialdO f13_100 (by decide) w (by omega) (by omega) rfl ?_
      refine ax_lshl f13_101 ?_
      refine ax_goto f13_102 rfl ?_
      refine ax_lor f13_106 ?_
      rw [wB_m0 (by omega) (by omega)]
      refine ax_lstore (ls' := [_, _, _, _, _, _, _, _, _, _, _]) f13_107 (Nat.le_of_ble_eq_true rfl) rfl ?_
      refine ax_iinc (ls' := [_, _, _, _, _, _, _, _, _, _, _]) f13_109 rfl (Nat.le_of_ble_eq_true rfl) rfl ?_
      refine ax_goto f13_112 rfl ?_
      exact lp_13 w i hx n (sba S (R r)) (r + 1) (by omega) (by omega) kk
theorem c_13 {h : am_H} {R : Int → Int} (cl : Lcl h R) (w : oI h 120 48 R) {k : Int} (h0 : 0 ≤ k ∧ k < blk R) (ht : ¬ R 192 = 0) : am_X 5 13 0 (am_ent 13 [.ref 0, .ref 120, .int (iI (fro R k)), .int (iI (fro R (k + 1))), .int (iI k), .int (iI (R (193 + k)))]) [] h (fun r h' => rI r 1 ∧ (Lcl h' R ∧ fr (fun q => q < 120) h h')) := by
  show am_X 5 13 0 [.ref 0, .ref 120, .int (iI (fro R k)), .int (iI (fro R (k + 1))), .int (iI k), .int (iI (R (193 + k))), am_u, am_u, am_u, am_u, am_u] [] h _
  have i := cl.i
  obtain ⟨b1, b2, b3⟩ := fro_lt i.ff h0.1 h0.2
  have b4 := (fro_sp i.ff k).1
  have b5 := (fro_sp i.ff (k + 1)).2.1
  have b6 := i.b12
  have su := i.su h0.1 (by omega)
  have gb := bok_in i.1.1 b4 (Int.le_of_lt b3) b5
  have c01 := csm_01 i.1.1 (v := R (193 + k)) b4 (Int.le_of_lt b3) b5
  have F : fr (fun q => q < 120) h h := fr_rf
  obtain ⟨A, eA⟩ : ∃ A, A = bok R (fro R k) (fro R (k + 1)) := ⟨_, rfl⟩
  rw [← eA] at gb
  obtain ⟨T, eT⟩ : ∃ T, T = R (193 + k) := ⟨_, rfl⟩
  rw [← eT] at su c01
  rw [← eT]
  have K28 : ∀ v : Int, (v = T ∨ v = A - T) → v ≤ T → v ≤ A - T → am_X 5 13 28 [.ref 0, .ref 120, .int (iI (fro R k)), .int (iI (fro R (k + 1))), .int (iI k), .int (iI T), .int (iI A), am_u, am_u, am_u, am_u] [.int (iI v)] h (fun r h' => rI r 1 ∧ (Lcl h' R ∧ fr (fun q => q < 120) h h')) := by
    intro v hv v1 v2
    refine ax_istore (ls' := [_, _, _, _, _, _, _, _, _, _, _]) f13_28 (Nat.le_of_ble_eq_true rfl) rfl ?_
    refine ax_iload f13_30 rfl ?_
    refine ax_if_ge f13_32 rfl ⟨by omega, by omega⟩ (fun q32 => ?_) (fun q32 => ?_)
    · refine ax_iload f13_50 rfl ?_
      refine ax_bipush f13_52 ?_
      refine ax_icmp_le f13_54 rfl ⟨by omega, by omega⟩ ⟨by omega, by omega⟩ (fun q54 => ?_) (fun q54 => ?_)
      · refine ax_lconst f13_72 ?_
        refine ax_lstore (ls' := [_, _, _, _, _, _, _, _, _, _, _]) f13_73 (Nat.le_of_ble_eq_true rfl) rfl ?_
        refine ax_iload_n f13_75 rfl ?_
        refine ax_istore (ls' := [_, _, _, _, _, _, _, _, _, _, _]) f13_76 (Nat.le_of_ble_eq_true rfl) rfl ?_
        rw [show Int64.ofNat ((1 : Fin 2) : Nat) = wB sb0 0 by rw [wB_0]; rfl]
        refine lp_13 w i ⟨b4, b5⟩ (fro R (k + 1) - fro R k).toNat sb0 (fro R k) (by omega) (Int.le_refl _) ?_
        refine ax_aload_n f13_115 rfl ?_
        refine ax_iload f13_116 rfl ?_
        refine ax_cvI (rest := []) f13_118 cl.o rfl rfl rfl rfl rfl rfl rfl rfl (u_128 cl h0 ht) ?_
        rintro hh1 ⟨cl1, f1⟩
        have cl := cl1
        have w := w.fr f1 (by omega)
        have F := F.trans (f1.mono fun x e => by omega)
        rw [← eT, csm_sym i.1.1 (u := v) b4 (Int.le_of_lt b3) b5 (by omega) (by rw [← eA]; omega) (by rw [← eA]; exact hv)]
        refine ax_lload f13_121 rfl ?_
        refine ax_iload f13_123 rfl ?_
        refine ax_lushr f13_125 ?_
        refine ax_lconst f13_126 ?_
        refine ax_land f13_127 ?_
        have eb := wB_bit (S := ssf R sb0 (fro R k) (fro R (k + 1) - fro R k).toNat) (v := v) (by omega)
        rw [show v / 64 = 0 by omega, show v % 64 = v by omega] at eb
        rw [eb]
        refine ax_l2i f13_128 ?_
        rw [l2i_if]
        have hi : (if ssf R sb0 (fro R k) (fro R (k + 1) - fro R k).toNat v = 1 then 1 else 0 : Int) = 0 ∨ (if ssf R sb0 (fro R k) (fro R (k + 1) - fro R k).toNat v = 1 then 1 else 0 : Int) = 1 := by split <;> simp
        generalize (if ssf R sb0 (fro R k) (fro R (k + 1) - fro R k).toNat v = 1 then 1 else 0 : Int) = u at hi
        refine ax_icmp_ne f13_129 rfl ⟨by omega, by omega⟩ ⟨by omega, by omega⟩ (fun q129 => absurd q129 (by omega)) (fun q129 => ?_)
        refine ax_iconst f13_132 ?_
        refine ax_goto f13_133 rfl ?_
        refine ax_ireturn f13_137 rfl rfl ?_
        exact ⟨rfl, cl, F⟩
      · refine ax_aload_n f13_57 rfl ?_
        refine ax_iload f13_58 rfl ?_
        refine ax_cvI (rest := []) f13_60 cl.o rfl rfl rfl rfl rfl rfl rfl rfl (u_128 cl h0 ht) ?_
        rintro hh1 ⟨cl1, f1⟩
        have cl := cl1
        have w := w.fr f1 (by omega)
        have F := F.trans (f1.mono fun x e => by omega)
        rw [← eT]
        refine ax_if_lt f13_63 rfl ⟨by omega, by omega⟩ (fun q63 => absurd q63 (by omega)) (fun q63 => ?_)
        refine ax_iconst f13_66 ?_
        refine ax_goto f13_67 rfl ?_
        refine ax_ireturn f13_71 rfl rfl ?_
        exact ⟨rfl, cl, F⟩
    · refine ax_aload_n f13_35 rfl ?_
      refine ax_iload f13_36 rfl ?_
      refine ax_cvI (rest := []) f13_38 cl.o rfl rfl rfl rfl rfl rfl rfl rfl (u_128 cl h0 ht) ?_
      rintro hh1 ⟨cl1, f1⟩
      have cl := cl1
      have w := w.fr f1 (by omega)
      have F := F.trans (f1.mono fun x e => by omega)
      rw [show csm R (fro R k) (fro R (k + 1)) (R (193 + k)) = 0 from if_neg (by rw [← eA, ← eT]; omega)]
      refine ax_if_ne f13_41 rfl ⟨by omega, by omega⟩ (fun q41 => absurd q41 (by omega)) (fun q41 => ?_)
      refine ax_iconst f13_44 ?_
      refine ax_goto f13_45 rfl ?_
      refine ax_ireturn f13_49 rfl rfl ?_
      exact ⟨rfl, cl, F⟩
  refine ax_aload_n f13_0 rfl ?_
  refine ax_iload_n f13_1 rfl ?_
  refine ax_iload_n f13_2 rfl ?_
  refine ax_csI (rest := []) f13_3 (Or.inl rfl) rfl rfl rfl rfl rfl rfl (c_5 w b4 (Int.le_of_lt b3) b5) ?_
  intro _ e_
  obtain rfl := e_.symm
  clear e_
  rw [← eA]
  refine ax_istore (ls' := [_, _, _, _, _, _, _, _, _, _, _]) f13_6 (Nat.le_of_ble_eq_true rfl) rfl ?_
  refine ax_iload f13_8 rfl ?_
  refine ax_iload f13_10 rfl ?_
  refine ax_iload f13_12 rfl ?_
  refine ax_isub f13_14 ?_
  refine ax_icmp_ge f13_15 rfl ⟨by omega, by omega⟩ ⟨by omega, by omega⟩ (fun q15 => ?_) (fun q15 => ?_)
  · refine ax_iload f13_23 rfl ?_
    refine ax_iload f13_25 rfl ?_
    refine ax_isub f13_27 ?_
    exact K28 _ (Or.inr rfl) (by omega) (by omega)
  · refine ax_iload f13_18 rfl ?_
    refine ax_goto f13_20 rfl ?_
    exact K28 _ (Or.inl rfl) (by omega) (by omega)
end ISM
