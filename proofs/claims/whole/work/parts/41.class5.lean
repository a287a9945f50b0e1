/-! ===== the class: scripts, texts loaded ===== -/
section SCR
theorem lcz_lt {x y : Int64} : lcz x y < 0 ↔ x.toInt < y.toInt := by
  unfold lcz
  by_cases h : y < x
  · rw [if_pos h]; rw [Int64.lt_iff_toInt_lt] at h; omega
  · rw [if_neg h]
    by_cases h2 : x = y
    · rw [if_pos h2, h2]; omega
    · rw [if_neg h2]
      rw [Int64.lt_iff_toInt_lt] at h
      have : ¬ x.toInt = y.toInt := fun z => h2 (Int64.toInt_inj.mp z)
      omega
theorem lN_ofI {x : Int64} (h : 0 ≤ x.toInt) : x = lN x.toInt.toNat ∧ x.toInt.toNat < 2 ^ 63 := by
  have h2 : x.toInt < 2 ^ 63 := Int64.toInt_lt x
  refine ⟨?_, by omega⟩
  apply Int64.toInt_inj.mp
  rw [lN_tiS (by omega)]; omega
/-- the place of the first command of a script that fails -/
def rsl (N : Nat) : Nat → (Int → Int) → Int → Int
  | 0, _, _ => -1
  | k + 1, R, i => if (scs R ((N / 100000 ^ k % 100000 : Nat) : Int)).1 = 1 then rsl N k (scs R ((N / 100000 ^ k % 100000 : Nat) : Int)).2 (i + 1) else i
def rsv (R : Int → Int) (x : Int64) (n : Int) : Int := rsl x.toInt.toNat n.toNat R 0
theorem lp_130 {d N : Nat} {Q : am_R → am_H → Prop} {m : Int} (hN : N < 2 ^ 63) : ∀ (n : Nat) (j : Int) (R1 : Int → Int) {h : am_H} (o : h.1[0]? = some (.inr (9, Cfs))) (h3 : Herd h 10 R1) (i : inv R1), j + n = m → 0 ≤ j ∧ m ≤ 3 → (∀ (v : Int) (h' : am_H), fr (HS 10) h h' → (∃ R2, Herd h' 10 R2) → v = rsl N n R1 j → Q (.inl (some (.int (iI v)))) h') → am_X (d + 56) 130 61 [.ref 0, .int (iI m), .long (lN N), am_u, .int (iI j)] [] h Q
  | 0, j, R1, h, o, h3, i, h1, h2, kk => by
    have h1 : j = m := by omega
    subst h1
    refine ax_iload f130_61 rfl ?_
    refine ax_iload_n f130_63 rfl ?_
    refine ax_icmp_ge f130_64 rfl ⟨by omega, by omega⟩ ⟨by omega, by omega⟩ (fun q64 => ?_) (fun q64 => absurd q64 (by omega))
    refine ax_iconst f130_96 ?_
    refine ax_ireturn f130_97 rfl rfl ?_
    exact kk _ h fr_rf ⟨_, h3⟩ rfl
  | n + 1, j, R1, h, o, h3, i, h1, h2, kk => by
    refine ax_iload f130_61 rfl ?_
    refine ax_iload_n f130_63 rfl ?_
    refine ax_icmp_ge f130_64 rfl ⟨by omega, by omega⟩ ⟨by omega, by omega⟩ (fun q64 => absurd q64 (by omega)) (fun q64 => ?_)
    refine ax_aload_n f130_67 rfl ?_
    refine ax_getf f130_68 o rfl ?_
    refine ax_lload_n f130_71 rfl ?_
    refine ax_iload_n f130_72 rfl ?_
    refine ax_iconst f130_73 ?_
    refine ax_isub f130_74 ?_
    refine ax_iload f130_75 rfl ?_
    refine ax_isub f130_77 ?_
    rw [show m - 1 - j = (n : Int) by omega]
    refine ax_csI (rest := [_]) f130_78 (Or.inl rfl) rfl rfl rfl rfl rfl rfl (c_78 (m := n) hN (by omega)) ?_
    intro _ e_
    obtain rfl := e_.symm
    clear e_
    have hg : (0 : Int) ≤ ((N / 100000 ^ n % 100000 : Nat) : Int) ∧ ((N / 100000 ^ n % 100000 : Nat) : Int) < 100000 := by have := Nat.mod_lt (N / 100000 ^ n) (show 0 < 100000 by decide); omega
    generalize hgg : ((N / 100000 ^ n % 100000 : Nat) : Int) = gg at *
    refine ax_csI (rest := []) f130_81 (Or.inl rfl) rfl rfl rfl rfl rfl rfl (c_79 h3 i (by omega) (by omega)) ?_
    rintro h9 ⟨H9, f9⟩
    have h01 := scs_01 (R := R1) (g := gg)
    refine ax_if_ne f130_84 rfl ⟨by omega, by omega⟩ (fun q84 => ?_) (fun q84 => ?_)
    · refine ax_iinc (ls' := [_, _, _, _, _]) f130_90 rfl (Nat.le_of_ble_eq_true rfl) rfl ?_
      refine ax_goto f130_93 rfl ?_
      refine lp_130 hN n (j + 1) _ (f9.at (by unfold HS; omega) o) H9 (scs_inv i _) (by omega) (by omega) ?_
      intro v h8 f8 a8 e8
      refine kk v h8 (f9.trans f8) a8 ?_
      unfold rsl
      rw [hgg, if_pos (by omega)]
      exact e8
    · refine ax_iload f130_87 rfl ?_
      refine ax_ireturn f130_89 rfl rfl ?_
      refine kk _ h9 f9 ⟨_, H9⟩ ?_
      unfold rsl
      rw [hgg, if_neg (by omega)]
theorem k_130_1 {h : am_H} {R : Int → Int} {S : Int → Int → Int} {c : Int} {G : Nat → Int → Int} {b : Int → Int} {T : Int → Int} {L : Int} (a : Cls h (R, S, c, G, b, T, L)) (k : okS (R, S, c, G, b, T, L)) {n : Int} {x : Int64} (hn : inI n) (h0 : ¬ (1 ≤ n ∧ n ≤ 3)) : am_X 56 130 0 (am_ent 130 [.ref 0, .int (iI n), .long x]) [] h (Cthr h IAE (R, S, c, G, b, T, L)) := by
  show am_X 56 130 0 [.ref 0, .int (iI n), .long x, am_u, am_u] [] h _
  obtain ⟨o, hH, ⟨R2, hH2⟩, hF, hS, hP, hU, hHi, hSl, pos, le, fi, se, hT⟩ := id a
  have hH : Herd h 1 R := hH
  have hHi : Hist h 33 S c := hHi
  have hSl : Slot h 105 G b := hSl
  have hT : Tx h 118 T L pos le fi se := hT
  have i : inv R := k.1
  obtain ⟨nx, M, f, ho, he, hoa, hm, hrg⟩ := id hHi
  obtain ⟨kl1, kl2⟩ : 0 ≤ L ∧ L ≤ 120 := k.2.2.2.2.2.1
  obtain ⟨kc1, kc2⟩ : 0 ≤ c ∧ c ≤ 14 := k.2.2.1
  obtain ⟨hn1, hn2⟩ := hn
  refine ax_iload_n f130_0 rfl ?_
  refine ax_iconst f130_1 ?_
  refine ax_icmp_lt f130_2 rfl ⟨by omega, by omega⟩ ⟨by omega, by omega⟩ (fun q2 => ?_) (fun q2 => ?_)
  · refine ax_throw f130_10 rfl ?_
    exact ⟨rfl, _, rfl, a, fr_rf⟩
  · refine ax_iload_n f130_5 rfl ?_
    refine ax_iconst f130_6 ?_
    refine ax_icmp_le f130_7 rfl ⟨by omega, by omega⟩ ⟨by omega, by omega⟩ (fun q7 => absurd q7 (by omega)) (fun q7 => ?_)
    refine ax_throw f130_10 rfl ?_
    exact ⟨rfl, _, rfl, a, fr_rf⟩
theorem k_130_2 {h : am_H} {R : Int → Int} {S : Int → Int → Int} {c : Int} {G : Nat → Int → Int} {b : Int → Int} {T : Int → Int} {L : Int} (a : Cls h (R, S, c, G, b, T, L)) (k : okS (R, S, c, G, b, T, L)) {n : Int} {x : Int64} (h0 : 1 ≤ n ∧ n ≤ 3) (h1 : ¬ (0 ≤ x.toInt ∧ x.toInt < ((100000 ^ n.toNat : Nat) : Int))) : am_X 56 130 0 (am_ent 130 [.ref 0, .int (iI n), .long x]) [] h (Cthr h IAE (R, S, c, G, b, T, L)) := by
  show am_X 56 130 0 [.ref 0, .int (iI n), .long x, am_u, am_u] [] h _
  obtain ⟨o, hH, ⟨R2, hH2⟩, hF, hS, hP, hU, hHi, hSl, pos, le, fi, se, hT⟩ := id a
  have hH : Herd h 1 R := hH
  have hHi : Hist h 33 S c := hHi
  have hSl : Slot h 105 G b := hSl
  have hT : Tx h 118 T L pos le fi se := hT
  have i : inv R := k.1
  obtain ⟨nx, M, f, ho, he, hoa, hm, hrg⟩ := id hHi
  obtain ⟨kl1, kl2⟩ : 0 ≤ L ∧ L ≤ 120 := k.2.2.2.2.2.1
  obtain ⟨kc1, kc2⟩ : 0 ≤ c ∧ c ≤ 14 := k.2.2.1
  have e0 : (Int64.ofNat ((0 : Fin 2) : Nat)).toInt = 0 := by decide
  obtain ⟨m, hm0⟩ : ∃ m : Nat, n = m := ⟨n.toNat, by omega⟩
  subst hm0
  have hp := pw5 m (by omega)
  have hT : (lN (100000 ^ m)).toInt = ((100000 ^ m : Nat) : Int) := lN_tiS hp
  rw [Int.toNat_natCast] at h1
  refine ax_iload_n f130_0 rfl ?_
  refine ax_iconst f130_1 ?_
  refine ax_icmp_lt f130_2 rfl ⟨by omega, by omega⟩ ⟨by omega, by omega⟩ (fun q2 => absurd q2 (by omega)) (fun q2 => ?_)
  refine ax_iload_n f130_5 rfl ?_
  refine ax_iconst f130_6 ?_
  refine ax_icmp_le f130_7 rfl ⟨by omega, by omega⟩ ⟨by omega, by omega⟩ (fun q7 => ?_) (fun q7 => absurd q7 (by omega))
  refine ax_lload_n f130_21 rfl ?_
  refine ax_lconst f130_22 ?_
  refine ax_lcmpz f130_23 ?_
  refine ax_if_lt f130_24 rfl (lcz_in _ _) (fun q24 => ?_) (fun q24 => ?_)
  · refine ax_throw f130_36 rfl ?_
    exact ⟨rfl, _, rfl, a, fr_rf⟩
  · refine ax_lload_n f130_27 rfl ?_
    refine ax_iload_n f130_28 rfl ?_
    refine ax_csL (rest := [_]) f130_29 (Or.inl rfl) rfl rfl rfl rfl rfl rfl (c_77 (m := m) (by omega)) ?_
    intro _ e_
    obtain rfl := e_.symm
    clear e_
    refine ax_lcmpz f130_32 ?_
    refine ax_if_lt f130_33 rfl (lcz_in _ _) (fun q33 => ?_) (fun q33 => ?_)
    · exact absurd ⟨by have := mt lcz_lt.mpr q24; rw [e0] at this; omega, by have := lcz_lt.mp q33; rw [hT] at this; omega⟩ h1
    · refine ax_throw f130_36 rfl ?_
      exact ⟨rfl, _, rfl, a, fr_rf⟩
theorem k_130 {h : am_H} {R : Int → Int} {S : Int → Int → Int} {c : Int} {G : Nat → Int → Int} {b : Int → Int} {T : Int → Int} {L : Int} (a : Cls h (R, S, c, G, b, T, L)) (k : okS (R, S, c, G, b, T, L)) {n : Int} {x : Int64} (h0 : 1 ≤ n ∧ n ≤ 3) (h1 : 0 ≤ x.toInt ∧ x.toInt < ((100000 ^ n.toNat : Nat) : Int)) : am_X 56 130 0 (am_ent 130 [.ref 0, .int (iI n), .long x]) [] h (Cout h (rsv R x n) (R, S, c, G, b, T, L)) := by
  show am_X 56 130 0 [.ref 0, .int (iI n), .long x, am_u, am_u] [] h _
  obtain ⟨o, hH, ⟨R2, hH2⟩, hF, hS, hP, hU, hHi, hSl, pos, le, fi, se, hT⟩ := id a
  have hH : Herd h 1 R := hH
  have hHi : Hist h 33 S c := hHi
  have hSl : Slot h 105 G b := hSl
  have hT : Tx h 118 T L pos le fi se := hT
  have i : inv R := k.1
  obtain ⟨nx, M, f, ho, he, hoa, hm, hrg⟩ := id hHi
  obtain ⟨kl1, kl2⟩ : 0 ≤ L ∧ L ≤ 120 := k.2.2.2.2.2.1
  obtain ⟨kc1, kc2⟩ : 0 ≤ c ∧ c ≤ 14 := k.2.2.1
  have e0 : (Int64.ofNat ((0 : Fin 2) : Nat)).toInt = 0 := by decide
  obtain ⟨m, hm0⟩ : ∃ m : Nat, n = m := ⟨n.toNat, by omega⟩
  subst hm0
  have hp := pw5 m (by omega)
  have hT : (lN (100000 ^ m)).toInt = ((100000 ^ m : Nat) : Int) := lN_tiS hp
  rw [Int.toNat_natCast] at h1
  refine ax_iload_n f130_0 rfl ?_
  refine ax_iconst f130_1 ?_
  refine ax_icmp_lt f130_2 rfl ⟨by omega, by omega⟩ ⟨by omega, by omega⟩ (fun q2 => absurd q2 (by omega)) (fun q2 => ?_)
  refine ax_iload_n f130_5 rfl ?_
  refine ax_iconst f130_6 ?_
  refine ax_icmp_le f130_7 rfl ⟨by omega, by omega⟩ ⟨by omega, by omega⟩ (fun q7 => ?_) (fun q7 => absurd q7 (by omega))
  refine ax_lload_n f130_21 rfl ?_
  refine ax_lconst f130_22 ?_
  refine ax_lcmpz f130_23 ?_
  refine ax_if_lt f130_24 rfl (lcz_in _ _) (fun q24 => ?_) (fun q24 => ?_)
  · exact absurd (lcz_lt.mp q24) (by rw [e0]; omega)
  · refine ax_lload_n f130_27 rfl ?_
    refine ax_iload_n f130_28 rfl ?_
    refine ax_csL (rest := [_]) f130_29 (Or.inl rfl) rfl rfl rfl rfl rfl rfl (c_77 (m := m) (by omega)) ?_
    intro _ e_
    obtain rfl := e_.symm
    clear e_
    refine ax_lcmpz f130_32 ?_
    refine ax_if_lt f130_33 rfl (lcz_in _ _) (fun q33 => ?_) (fun q33 => ?_)
    · refine ax_aload_n f130_47 rfl ?_
      refine ax_getf f130_48 o rfl ?_
      refine ax_aload_n f130_51 rfl ?_
      refine ax_getf f130_52 o rfl ?_
      refine ax_cvV (rest := []) f130_55 hH2.2.1.1 rfl rfl rfl rfl rfl rfl rfl rfl (c_42 hH2.2.1 hH.2.1 (by omega) i.td) ?_
      rintro h9 ⟨m9, f9⟩
      have f9 : fr (MS (10 + 1)) h h9 := f9
      have o9 := f9.at (q := 0) (by unfold MS; omega) o
      have H9 := hH2.me m9 f9
      refine ax_iconst f130_58 ?_
      refine ax_istore (ls' := [_, _, _, _, _]) f130_59 (Nat.le_of_ble_eq_true rfl) rfl ?_
      obtain ⟨ex, hN⟩ := lN_ofI h1.1
      have z := lp_130 (d := 0) (m := (m : Int)) (Q := Cout h (rsv R x m) (R, S, c, G, b, T, L)) hN m 0 R o9 H9 i (by omega) (by omega) ?_
      · rw [← ex] at z
        exact z
      intro v h8 f8 a8 e8
      obtain ⟨g1, g2⟩ := Cls_r a ((f9.mono fun q e => by unfold MS at e; omega).trans (f8.mono fun q e => by unfold HS at e; omega)) a8
      exact ⟨rI_of e8, g1, g2⟩
    · exact (q33 (lcz_lt.mpr (by rw [hT]; omega))).elim
end SCR
