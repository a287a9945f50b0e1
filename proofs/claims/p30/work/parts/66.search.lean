/-! ===== the law's search of all blocks ===== -/
section LSE
/-- the law's array of single numbers -/
def nn (R : Int → Int) (j : Int) : Int := if j = 0 then R 192 else if j = 1 then R 217 else if j = 2 then R 269 else if j = 3 then R 266 else if j = 4 then R 267 else R 268
/-- of the old cells only those in S changed; n cells of m slots are new -/
def gx (S : Nat → Prop) (h h' : am_H) (n m : Nat) : Prop := (∀ q, q < h.1.length → ¬ S q → h'.1[q]? = h.1[q]?) ∧ h'.1.length = h.1.length + n ∧ h'.2.1 = (h.2.1.1 + n, h.2.1.2 + m) ∧ h'.2.2 = h.2.2
section GX
variable {S T : Nat → Prop} {h h1 h2 : am_H} {n m n' m' p : Nat}
theorem gx.tr (a : gx S h h1 n m) (b : gx S h1 h2 n' m') : gx S h h2 (n + n') (m + m') := by
  obtain ⟨a1, a2, a3, a4⟩ := a
  obtain ⟨b1, b2, b3, b4⟩ := b
  refine ⟨fun q q1 q2 => (b1 q (by omega) q2).trans (a1 q q1 q2), by omega, ?_, b4.trans a4⟩
  rw [b3, a3, Nat.add_assoc, Nat.add_assoc]
theorem gx.mono (a : gx S h h1 n m) (k : ∀ q, S q → T q) : gx T h h1 n m := ⟨fun q q1 q2 => a.1 q q1 (fun z => q2 (k q z)), a.2⟩
theorem gx.cg (a : gx S h h1 n m) (e1 : n = n') (e2 : m = m') : gx S h h1 n' m' := e1 ▸ e2 ▸ a
theorem gx_fr (f : fr S h h1) : gx S h h1 0 0 := ⟨fun q _ q2 => f.2.2 q q2, f.1, by rw [f.2.1]; rfl, by rw [f.2.1]⟩
theorem gx_wf (g : gw h h1 p n m) (hp : h.1.length = p) (f : fr T h1 h2) (k : ∀ q, q < p → T q → S q) : gx S h h2 n m :=
  ⟨fun q q1 q2 => (f.2.2 q (fun z => q2 (k q (by omega) z))).trans (g.1 q (by omega)), by rw [f.1]; exact g.2.1, by rw [f.2.1]; exact g.2.2.1, by rw [f.2.1]; exact g.2.2.2⟩
theorem oA.gx {t k q : Nat} {g : Int → Int} (a : oA t h q k g) (b : gx S h h1 n m) (hq : ¬ S q) : oA t h1 q k g := by
  obtain ⟨f, o, c⟩ := a
  exact ⟨f, (b.1 q (List.getElem?_eq_some_iff.mp o).1 hq).trans o, c⟩
theorem gx_gw (a : gx S h h1 n m) (hp : p ≤ h.1.length) (hS : ∀ q, q < p → ¬ S q) : gw h h1 p n m := ⟨fun q q1 => a.1 q (by omega) (hS q q1), a.2⟩
end GX
theorem sea_step {R : Int → Int} (i : inv R) {w k lk lack : Int} {n : Nat} {F : Int → Int} (k0 : 0 ≤ k) (k1 : k < blk R) (hz : ∀ j, fro R k ≤ j → j < 48 → F j = 0) (hl : lack = if R 269 = 1 then bok R (fro R k) (fro R (k + 1)) - R (193 + k) else gon R (fro R k) (fro R (k + 1))) :
    sea R w k (n + 1) lk F = sea R w (k + 1) n (lk + (1 - R 269 + (if 0 < lack then SL R w (fro R k) (fro R (k + 1)) lack else 0))) (fun j => F j + (if 0 < lack then SF R w (fro R k) (fro R (k + 1)) lack j else 0)) := by
  obtain ⟨b1, b2, b3⟩ := fro_lt i.ff k0 k1
  have b4 := (fro_sp i.ff k).1
  have b5 := (fro_sp i.ff (k + 1)).2.1
  have eg := gon_e (R := R) i.1.2.1 b4 (Int.le_of_lt b3) b5
  have tr := i.tr
  have el : bok R (fro R k) (fro R (k + 1)) - (if R 269 = 0 then fld R (fro R k) (fro R (k + 1)) else R (193 + k)) = lack := by
    rw [hl]
    rcases tr with t | t
    · rw [if_pos t, if_neg (by omega)]; omega
    · rw [if_neg (by omega), if_pos t]
  have e0 : sea R w k (n + 1) lk F = sea R w (k + 1) n (if 0 < lack then sr R w 48 (fro R k) (fro R (k + 1)) lack (if R 269 = 0 then lk + 1 else lk) F else ((if R 269 = 0 then lk + 1 else lk), F)).1 (if 0 < lack then sr R w 48 (fro R k) (fro R (k + 1)) lack (if R 269 = 0 then lk + 1 else lk) F else ((if R 269 = 0 then lk + 1 else lk), F)).2 := by
    rw [← el]
    rfl
  rw [e0]
  have e1 : (if R 269 = 0 then lk + 1 else lk) = lk + (1 - R 269) := by
    rcases tr with t | t
    · rw [if_pos t]; omega
    · rw [if_neg (by omega)]; omega
  rw [e1]
  by_cases c : 0 < lack
  · have ad := sr_ad R w 48 (fro R k) (fro R (k + 1)) lack (lk + (1 - R 269)) F b3 (by omega) (fun j j1 j2 => hz j j1 (by omega))
    have f2 : (sr R w 48 (fro R k) (fro R (k + 1)) lack (lk + (1 - R 269)) F).2 = fun j => F j + SF R w (fro R k) (fro R (k + 1)) lack j := funext ad.2
    have f1 : (sr R w 48 (fro R k) (fro R (k + 1)) lack (lk + (1 - R 269)) F).1 = lk + (1 - R 269 + SL R w (fro R k) (fro R (k + 1)) lack) := by
      rw [ad.1]
      show _ + SL R w (fro R k) (fro R (k + 1)) lack = _
      omega
    rw [if_pos c, if_pos c, f1, f2]
    congr 1
    funext j
    rw [if_pos c]
  · rw [if_neg c, if_neg c, Int.add_zero]
    congr 1
    funext j
    rw [if_neg c, Int.add_zero]
theorem lp_11z {d p qf : Nat} (hq : 125 ≤ qf) {Q : am_R → am_H → Prop} {wy : Int} {x15 x16 x17 : Value} : ∀ (n : Nat) (r : Int) {h : am_H} {Fd : Int → Int} (bF : oI h qf 48 Fd) (h1 : r + n = 48) (h2 : 0 ≤ r) (kk : ∀ h', oI h' qf 48 (fun j => if r ≤ j then 0 else Fd j) → fr (fun q => q = qf) h h' → am_X d 11 55 [.ref 120, .ref 121, .ref 122, .ref 123, .ref 124, .ref 126, .int (iI wy), .ref qf, .ref p, .ref (p + 1), .ref (p + 2), .ref (p + 3), .ref (p + 4), .int (iI 0), .int (iI 48), x15, x16, x17] [] h' Q), am_X d 11 36 [.ref 120, .ref 121, .ref 122, .ref 123, .ref 124, .ref 126, .int (iI wy), .ref qf, .ref p, .ref (p + 1), .ref (p + 2), .ref (p + 3), .ref (p + 4), .int (iI 0), .int (iI r), x15, x16, x17] [] h Q
  | 0, r, h, Fd, bF, h1, h2, kk => by
    have h1 : r = 48 := by omega
    subst h1
    refine ax_iload f11_36 rfl ?_
    refine ax_bipush f11_38 ?_
    refine ax_icmp_ge f11_40 rfl ⟨by omega, by omega⟩ ⟨by omega, by omega⟩ (fun q40 => ?_) (fun q40 => absurd q40 (by omega))
    exact kk h (bF.eq (fun j j1 j2 => (if_neg (by omega)))) fr_rf
  | n + 1, r, h, Fd, bF, h1, h2, kk => by
    refine ax_iload f11_36 rfl ?_
    refine ax_bipush f11_38 ?_
    refine ax_icmp_ge f11_40 rfl ⟨by omega, by omega⟩ ⟨by omega, by omega⟩ (fun q40 => absurd q40 (by omega)) (fun q40 => ?_)
    refine ax_aload f11_43 rfl ?_
    refine ax_iload f11_45 rfl ?_
    refine ax_iconst f11_47 ?_
    refine ax_iastO f11_48 bF (by omega) (by omega) rfl (fun hp1 o1 r1 => ?_)
    have bF := o1
    refine ax_iinc (ls' := [_, _, _, _, _, _, _, _, _, _, _, _, _, _, _, _, _, _]) f11_49 rfl (Nat.le_of_ble_eq_true rfl) rfl ?_
    refine ax_goto f11_52 rfl ?_
    refine lp_11z hq n (r + 1) bF (by omega) (by omega) (fun h' g1 g2 => ?_)
    refine kk h' (g1.eq (fun j j1 j2 => ?_)) (r1.trans g2)
    unfold uZ
    by_cases c : j = r
    · rw [if_pos (by omega), if_neg (by omega), if_pos c]
    · by_cases c2 : r ≤ j
      · rw [if_pos c2, if_pos (by omega)]
      · rw [if_neg c2, if_neg (by omega), if_neg c]
theorem lp_11 {d p qf : Nat} (hp : 127 ≤ p) (hq : 125 ≤ qf ∧ ¬ qf = 126 ∧ qf < p) {R : Int → Int} (i : inv R) {wy : Int} (hw : wy = 0 ∨ wy = 1 ∨ wy = 2) : ∀ (n : Nat) (k lk : Int) {h : am_H} {Fd B E K X Y : Int → Int} {x15 x16 x17 : Value} (w : oI h 120 48 R) (a : oI h 121 48 (fun j => R (48 + j))) (l : oI h 122 48 (fun j => R (96 + j))) (f : oI h 123 48 (fun j => R (144 + j))) (b : oI h 124 24 (fun j => R (193 + j))) (nN : oI h 126 6 (nn R)) (bF : oI h qf 48 Fd) (bB : oI h p 48 B) (bE : oI h (p + 1) 48 E) (bK : oI h (p + 2) 48 K) (bX : oI h (p + 3) 64 X) (bY : oI h (p + 4) 48 Y) (h1 : k + n = blk R) (h2 : 0 ≤ k) (hz : ∀ j, fro R k ≤ j → j < 48 → Fd j = 0),
    am_X (d + 3) 11 58 [.ref 120, .ref 121, .ref 122, .ref 123, .ref 124, .ref 126, .int (iI wy), .ref qf, .ref p, .ref (p + 1), .ref (p + 2), .ref (p + 3), .ref (p + 4), .int (iI lk), .int (iI k), x15, x16, x17] [] h (fun r' h' => rI r' (sea R wy k n lk Fd).1 ∧ oI h' qf 48 (sea R wy k n lk Fd).2 ∧ fr (fun q => q = qf ∨ (p ≤ q ∧ q ≤ p + 4)) h h')
  | 0, k, lk, h, Fd, B, E, K, X, Y, x15, x16, x17, w, a, l, f, b, nN, bF, bB, bE, bK, bX, bY, h1, h2, hz => by
    have b6 := i.b12
    have h1 : k = blk R := by omega
    refine ax_iload f11_58 rfl ?_
    refine ax_aload_n f11_60 rfl ?_
    refine ax_csI (rest := [_]) f11_61 (Or.inl rfl) rfl rfl rfl rfl rfl rfl (c_3 f) ?_
    intro _ e_
    obtain rfl := e_.symm
    clear e_
    refine ax_icmp_ge f11_64 rfl ⟨by omega, by omega⟩ ⟨by omega, by omega⟩ (fun q64 => ?_) (fun q64 => absurd q64 (by omega))
    refine ax_iload f11_165 rfl ?_
    refine ax_ireturn f11_167 rfl rfl ?_
    exact ⟨rfl, bF, fr_rf⟩
  | n + 1, k, lk, h, Fd, B, E, K, X, Y, x15, x16, x17, w, a, l, f, b, nN, bF, bB, bE, bK, bX, bY, h1, h2, hz => by
    obtain ⟨b1, b2, b3⟩ := fro_lt i.ff h2 (by omega)
    have b4 := (fro_sp i.ff k).1
    have b5 := (fro_sp i.ff (k + 1)).2.1
    have b6 := i.b12
    have tr := i.tr
    have su := i.su h2 (by omega)
    have gb := bok_in i.1.1 b4 (Int.le_of_lt b3) b5
    have gg := gon_in i b4 (Int.le_of_lt b3) b5
    have K119 : ∀ la : Int, la = (if R 269 = 1 then bok R (fro R k) (fro R (k + 1)) - R (193 + k) else gon R (fro R k) (fro R (k + 1))) → am_X (d + 3) 11 119 [.ref 120, .ref 121, .ref 122, .ref 123, .ref 124, .ref 126, .int (iI wy), .ref qf, .ref p, .ref (p + 1), .ref (p + 2), .ref (p + 3), .ref (p + 4), .int (iI lk), .int (iI k), .int (iI (fro R k)), .int (iI (fro R (k + 1))), x17] [.int (iI la)] h (fun r' h' => rI r' (sea R wy k (n + 1) lk Fd).1 ∧ oI h' qf 48 (sea R wy k (n + 1) lk Fd).2 ∧ fr (fun q => q = qf ∨ (p ≤ q ∧ q ≤ p + 4)) h h') := by
      intro la hla
      have hla2 : -5000 ≤ la ∧ la ≤ 5000 := by rw [hla]; split <;> omega
      refine ax_istore (ls' := [_, _, _, _, _, _, _, _, _, _, _, _, _, _, _, _, _, _]) f11_119 (Nat.le_of_ble_eq_true rfl) rfl ?_
      refine ax_iload f11_121 rfl ?_
      refine ax_iconst f11_123 ?_
      refine ax_aload f11_124 rfl ?_
      refine ax_iconst f11_126 ?_
      refine ax_ialdO f11_127 (by decide) nN (by omega) (by omega) rfl ?_
      rw [show nn R 2 = R 269 from rfl]
      refine ax_isub f11_128 ?_
      refine ax_aload_n f11_129 rfl ?_
      refine ax_aload_n f11_130 rfl ?_
      refine ax_aload_n f11_131 rfl ?_
      refine ax_iload f11_132 rfl ?_
      refine ax_iload f11_134 rfl ?_
      refine ax_iload f11_136 rfl ?_
      refine ax_iload f11_138 rfl ?_
      refine ax_aload f11_140 rfl ?_
      refine ax_aload f11_142 rfl ?_
      refine ax_aload f11_144 rfl ?_
      refine ax_aload f11_146 rfl ?_
      refine ax_aload f11_148 rfl ?_
      refine ax_aload f11_150 rfl ?_
      refine ax_csI (rest := [_, _]) f11_152 (Or.inl rfl) rfl rfl rfl rfl rfl rfl (c_9 hp hq i hw w a l bF bB bE bK bX bY b4 b3 b5 (by omega) (by omega) (fun j j1 j2 => hz j j1 (by omega))) ?_
      rintro h2_ ⟨⟨B2, E2, K2, X2, Y2, y1, y2, y3, y4, y5⟩, y6, y7⟩
      have w := w.fr y7 (by omega)
      have a := a.fr y7 (by omega)
      have l := l.fr y7 (by omega)
      have f := f.fr y7 (by omega)
      have b := b.fr y7 (by omega)
      have nN := nN.fr y7 (by omega)
      refine ax_iadd f11_155 ?_
      refine ax_iadd f11_156 ?_
      refine ax_istore (ls' := [_, _, _, _, _, _, _, _, _, _, _, _, _, _, _, _, _, _]) f11_157 (Nat.le_of_ble_eq_true rfl) rfl ?_
      refine ax_iinc (ls' := [_, _, _, _, _, _, _, _, _, _, _, _, _, _, _, _, _, _]) f11_159 rfl (Nat.le_of_ble_eq_true rfl) rfl ?_
      refine ax_goto f11_162 rfl ?_
      have ih := lp_11 (d := d) hp hq i hw n (k + 1) (lk + (1 - R 269 + (if 0 < la then SL R wy (fro R k) (fro R (k + 1)) la else 0))) (x15 := .int (iI (fro R k))) (x16 := .int (iI (fro R (k + 1)))) (x17 := .int (iI la)) w a l f b nN y6 y1 y2 y3 y4 y5 (by omega) (by omega) (fun j j1 j2 => by
        rw [hz j (by omega) j2]
        by_cases c : 0 < la
        · rw [if_pos c, SF_out b3 (by omega) (Or.inr j1)]; rfl
        · rw [if_neg c]; rfl)
      rw [sea_step i h2 (by omega) hz hla]
      exact am_X_mono ih (Nat.le_refl _) (fun r' h' z => ⟨z.1, z.2.1, y7.trans z.2.2⟩)
    refine ax_iload f11_58 rfl ?_
    refine ax_aload_n f11_60 rfl ?_
    refine ax_csI (rest := [_]) f11_61 (Or.inl rfl) rfl rfl rfl rfl rfl rfl (c_3 f) ?_
    intro _ e_
    obtain rfl := e_.symm
    clear e_
    refine ax_icmp_ge f11_64 rfl ⟨by omega, by omega⟩ ⟨by omega, by omega⟩ (fun q64 => absurd q64 (by omega)) (fun q64 => ?_)
    refine ax_aload_n f11_67 rfl ?_
    refine ax_iload f11_68 rfl ?_
    refine ax_csI (rest := []) f11_70 (Or.inl rfl) rfl rfl rfl rfl rfl rfl (c_4 f i.ff ⟨by omega, by omega⟩) ?_
    intro _ e_
    obtain rfl := e_.symm
    clear e_
    refine ax_istore (ls' := [_, _, _, _, _, _, _, _, _, _, _, _, _, _, _, _, _, _]) f11_73 (Nat.le_of_ble_eq_true rfl) rfl ?_
    refine ax_aload_n f11_75 rfl ?_
    refine ax_iload f11_76 rfl ?_
    refine ax_iconst f11_78 ?_
    refine ax_iadd f11_79 ?_
    refine ax_csI (rest := []) f11_80 (Or.inl rfl) rfl rfl rfl rfl rfl rfl (c_4 f i.ff ⟨by omega, by omega⟩) ?_
    intro _ e_
    obtain rfl := e_.symm
    clear e_
    refine ax_istore (ls' := [_, _, _, _, _, _, _, _, _, _, _, _, _, _, _, _, _, _]) f11_83 (Nat.le_of_ble_eq_true rfl) rfl ?_
    refine ax_aload f11_85 rfl ?_
    refine ax_iconst f11_87 ?_
    refine ax_ialdO f11_88 (by decide) nN (by omega) (by omega) rfl ?_
    rw [show nn R 2 = R 269 from rfl]
    refine ax_iconst f11_89 ?_
    refine ax_icmp_ne f11_90 rfl ⟨by omega, by omega⟩ ⟨by omega, by omega⟩ (fun q90 => ?_) (fun q90 => ?_)
    · refine ax_aload_n f11_110 rfl ?_
      refine ax_aload_n f11_111 rfl ?_
      refine ax_iload f11_112 rfl ?_
      refine ax_iload f11_114 rfl ?_
      refine ax_csI (rest := []) f11_116 (Or.inl rfl) rfl rfl rfl rfl rfl rfl (c_6 w a b4 (by omega) (by omega) b5) ?_
      intro _ e_
      obtain rfl := e_.symm
      clear e_
      exact K119 _ (by rw [if_neg (by omega)])
    · refine ax_aload_n f11_93 rfl ?_
      refine ax_iload f11_94 rfl ?_
      refine ax_iload f11_96 rfl ?_
      refine ax_csI (rest := []) f11_98 (Or.inl rfl) rfl rfl rfl rfl rfl rfl (c_5 w b4 (Int.le_of_lt b3) b5) ?_
      intro _ e_
      obtain rfl := e_.symm
      clear e_
      refine ax_aload f11_101 rfl ?_
      refine ax_iload f11_103 rfl ?_
      refine ax_ialdO f11_105 (by decide) b (by omega) (by omega) rfl ?_
      refine ax_isub f11_106 ?_
      refine ax_goto f11_107 rfl ?_
      exact K119 _ (by rw [if_pos (by omega)])
theorem c_11 {h : am_H} {qf : Nat} (hl : 127 ≤ h.1.length) (hqf : 125 ≤ qf ∧ ¬ qf = 126 ∧ qf < h.1.length) {R : Int → Int} (i : inv R) {wy : Int} {Fd : Int → Int} (hw : wy = 0 ∨ wy = 1 ∨ wy = 2) (w : oI h 120 48 R) (a : oI h 121 48 (fun j => R (48 + j))) (l : oI h 122 48 (fun j => R (96 + j))) (f : oI h 123 48 (fun j => R (144 + j))) (b : oI h 124 24 (fun j => R (193 + j))) (nN : oI h 126 6 (nn R)) (bF : oI h qf 48 Fd) : am_X 3 11 0 (am_ent 11 [.ref 120, .ref 121, .ref 122, .ref 123, .ref 124, .ref 126, .int (iI wy), .ref qf]) [] h (fun r h' => rI r (sek R wy).1 ∧ oI h' qf 48 (sek R wy).2 ∧ gx (fun q => q = qf) h h' 5 256) := by
  show am_X 3 11 0 [.ref 120, .ref 121, .ref 122, .ref 123, .ref 124, .ref 126, .int (iI wy), .ref qf, am_u, am_u, am_u, am_u, am_u, am_u, am_u, am_u, am_u, am_u] [] h _
  obtain ⟨p, hl0⟩ : ∃ p, h.1.length = p := ⟨_, rfl⟩
  have hp : 127 ≤ p := by omega
  have hq : 125 ≤ qf ∧ ¬ qf = 126 ∧ qf < p := by omega
  refine ax_bipush f11_0 ?_
  refine ax_nwaO (A := (48, .inl fun _ => 0)) (N := 48) (p := p) f11_2 (by omega) (by omega) rfl rfl hl0 (fun ha1 o1 g1 => ?_)
  have hl1 : ha1.1.length = p + 1 := by have := g1.2.1; omega
  have bB : oI ha1 (p) 48 (fun _ => 0) := oA_0 o1
  have w := w.gw g1 (by omega)
  have a := a.gw g1 (by omega)
  have l := l.gw g1 (by omega)
  have f := f.gw g1 (by omega)
  have b := b.gw g1 (by omega)
  have nN := nN.gw g1 (by omega)
  have bF := bF.gw g1 (by omega)
  have G : gw h ha1 p 1 48 := g1
  refine ax_astore (ls' := [_, _, _, _, _, _, _, _, _, _, _, _, _, _, _, _, _, _]) f11_4 (Nat.le_of_ble_eq_true rfl) rfl ?_
  refine ax_bipush f11_6 ?_
  refine ax_nwaO (A := (48, .inl fun _ => 0)) (N := 48) (p := p + 1) f11_8 (by omega) (by omega) rfl rfl hl1 (fun ha2 o2 g2 => ?_)
  have hl2 : ha2.1.length = p + 2 := by have := g2.2.1; omega
  have bE : oI ha2 (p + 1) 48 (fun _ => 0) := oA_0 o2
  have w := w.gw g2 (by omega)
  have a := a.gw g2 (by omega)
  have l := l.gw g2 (by omega)
  have f := f.gw g2 (by omega)
  have b := b.gw g2 (by omega)
  have nN := nN.gw g2 (by omega)
  have bF := bF.gw g2 (by omega)
  have bB := bB.gw g2 (by omega)
  have G : gw h ha2 p 2 96 := (G.tr (g2.lo (by omega)))
  refine ax_astore (ls' := [_, _, _, _, _, _, _, _, _, _, _, _, _, _, _, _, _, _]) f11_10 (Nat.le_of_ble_eq_true rfl) rfl ?_
  refine ax_bipush f11_12 ?_
  refine ax_nwaO (A := (48, .inl fun _ => 0)) (N := 48) (p := p + 2) f11_14 (by omega) (by omega) rfl rfl hl2 (fun ha3 o3 g3 => ?_)
  have hl3 : ha3.1.length = p + 3 := by have := g3.2.1; omega
  have bK : oI ha3 (p + 2) 48 (fun _ => 0) := oA_0 o3
  have w := w.gw g3 (by omega)
  have a := a.gw g3 (by omega)
  have l := l.gw g3 (by omega)
  have f := f.gw g3 (by omega)
  have b := b.gw g3 (by omega)
  have nN := nN.gw g3 (by omega)
  have bF := bF.gw g3 (by omega)
  have bB := bB.gw g3 (by omega)
  have bE := bE.gw g3 (by omega)
  have G : gw h ha3 p 3 144 := (G.tr (g3.lo (by omega)))
  refine ax_astore (ls' := [_, _, _, _, _, _, _, _, _, _, _, _, _, _, _, _, _, _]) f11_16 (Nat.le_of_ble_eq_true rfl) rfl ?_
  refine ax_bipush f11_18 ?_
  refine ax_nwaO (A := (64, .inl fun _ => 0)) (N := 64) (p := p + 3) f11_20 (by omega) (by omega) rfl rfl hl3 (fun ha4 o4 g4 => ?_)
  have hl4 : ha4.1.length = p + 4 := by have := g4.2.1; omega
  have bX : oI ha4 (p + 3) 64 (fun _ => 0) := oA_0 o4
  have w := w.gw g4 (by omega)
  have a := a.gw g4 (by omega)
  have l := l.gw g4 (by omega)
  have f := f.gw g4 (by omega)
  have b := b.gw g4 (by omega)
  have nN := nN.gw g4 (by omega)
  have bF := bF.gw g4 (by omega)
  have bB := bB.gw g4 (by omega)
  have bE := bE.gw g4 (by omega)
  have bK := bK.gw g4 (by omega)
  have G : gw h ha4 p 4 208 := (G.tr (g4.lo (by omega)))
  refine ax_astore (ls' := [_, _, _, _, _, _, _, _, _, _, _, _, _, _, _, _, _, _]) f11_22 (Nat.le_of_ble_eq_true rfl) rfl ?_
  refine ax_bipush f11_24 ?_
  refine ax_nwaO (A := (48, .inl fun _ => 0)) (N := 48) (p := p + 4) f11_26 (by omega) (by omega) rfl rfl hl4 (fun ha5 o5 g5 => ?_)
  have hl5 : ha5.1.length = p + 5 := by have := g5.2.1; omega
  have bY : oI ha5 (p + 4) 48 (fun _ => 0) := oA_0 o5
  have w := w.gw g5 (by omega)
  have a := a.gw g5 (by omega)
  have l := l.gw g5 (by omega)
  have f := f.gw g5 (by omega)
  have b := b.gw g5 (by omega)
  have nN := nN.gw g5 (by omega)
  have bF := bF.gw g5 (by omega)
  have bB := bB.gw g5 (by omega)
  have bE := bE.gw g5 (by omega)
  have bK := bK.gw g5 (by omega)
  have bX := bX.gw g5 (by omega)
  have G : gw h ha5 p 5 256 := (G.tr (g5.lo (by omega)))
  refine ax_astore (ls' := [_, _, _, _, _, _, _, _, _, _, _, _, _, _, _, _, _, _]) f11_28 (Nat.le_of_ble_eq_true rfl) rfl ?_
  refine ax_iconst f11_30 ?_
  refine ax_istore (ls' := [_, _, _, _, _, _, _, _, _, _, _, _, _, _, _, _, _, _]) f11_31 (Nat.le_of_ble_eq_true rfl) rfl ?_
  refine ax_iconst f11_33 ?_
  refine ax_istore (ls' := [_, _, _, _, _, _, _, _, _, _, _, _, _, _, _, _, _, _]) f11_34 (Nat.le_of_ble_eq_true rfl) rfl ?_
  refine lp_11z (by omega) 48 0 bF (by omega) (by omega) (fun h6 c1 c2 => ?_)
  have bF : oI h6 qf 48 (fun _ => 0) := c1.eq (fun j j1 j2 => by rw [if_pos j1])
  have w := w.fr c2 (by omega)
  have a := a.fr c2 (by omega)
  have l := l.fr c2 (by omega)
  have f := f.fr c2 (by omega)
  have b := b.fr c2 (by omega)
  have nN := nN.fr c2 (by omega)
  have bB := bB.fr c2 (by omega)
  have bE := bE.fr c2 (by omega)
  have bK := bK.fr c2 (by omega)
  have bX := bX.fr c2 (by omega)
  have bY := bY.fr c2 (by omega)
  refine ax_iconst f11_55 ?_
  refine ax_istore (ls' := [_, _, _, _, _, _, _, _, _, _, _, _, _, _, _, _, _, _]) f11_56 (Nat.le_of_ble_eq_true rfl) rfl ?_
  have ih := lp_11 (d := 0) (x15 := am_u) (x16 := am_u) (x17 := am_u) hp hq i hw (blk R).toNat 0 0 w a l f b nN bF bB bE bK bX bY (by have := blk_1 i.ff; omega) (by omega) (fun _ _ _ => rfl)
  refine am_X_mono ih (Nat.le_refl _) (fun r' h' z => ⟨z.1, z.2.1, gx_wf G hl0 ((c2.mono fun x e => Or.inl e).trans z.2.2) (fun q q1 q2 => by omega)⟩)
end LSE
