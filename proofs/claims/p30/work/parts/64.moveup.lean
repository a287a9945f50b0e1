/-! ===== the law's search, level by level: the parts of the next level move up ===== -/
section MVU
theorem uZ_uZ {α : Type} {g : Int → α} {k : Int} {u v : α} : uZ (uZ g k u) k v = uZ g k v := by
  funext j
  unfold uZ
  split <;> rfl
theorem lp_10a {d p : Nat} (hp : 127 ≤ p) {R : Int → Int} (i : inv R) {Q : am_R → am_H → Prop} {B E K X Y0 : Int → Int} {e more many k x y : Int} (e0 : e ≤ 48) (hxy : 0 ≤ x ∧ x < y ∧ y ≤ 48) : ∀ (r : List Pt) (ii acc : Int) {h : am_H} {s : Int} {x12 x13 : Value} (w : oI h 120 48 R) (a : oI h 121 48 (fun j => R (48 + j))) (bB : oI h p 48 B) (bE : oI h (p + 1) 48 E) (bK : oI h (p + 2) 48 K) (bX : oI h (p + 3) 64 X) (bY : oI h (p + 4) 48 (uZ Y0 k acc)) (sr : srt s e r) (al : arl B E K ii r) (hl : ii + r.length = many) (h0 : 0 ≤ ii ∧ 0 ≤ s ∧ many ≤ 48) (hk : 0 ≤ k ∧ k < 48) (hX : X k = 100 * x + y)
    (kk : ∀ h' x12 x13, oI h' (p + 4) 48 (uZ Y0 k (mvl R x y acc r)) → fr (fun q => q = p + 4) h h' → am_X (d + 1) 10 133 [.ref 120, .ref 121, .ref p, .ref (p + 1), .ref (p + 2), .ref (p + 3), .ref (p + 4), .int (iI more), .int (iI many), .int (iI k), .int (iI x), .int (iI many), x12, x13] [] h' Q), am_X (d + 1) 10 29 [.ref 120, .ref 121, .ref p, .ref (p + 1), .ref (p + 2), .ref (p + 3), .ref (p + 4), .int (iI more), .int (iI many), .int (iI k), .int (iI x), .int (iI ii), x12, x13] [] h Q
  | [], ii, acc, h, s, x12, x13, w, a, bB, bE, bK, bX, bY, sr, al, hl, h0, hk, hX, kk => by
    have hl : ii = many := by simpa using hl
    subst hl
    refine ax_iload f10_29 rfl ?_
    refine ax_iload f10_31 rfl ?_
    refine ax_icmp_ge f10_33 rfl ⟨by omega, by omega⟩ ⟨by omega, by omega⟩ (fun q33 => ?_) (fun q33 => absurd q33 (by omega))
    exact kk h x12 x13 bY fr_rf
  | p1 :: r, ii, acc, h, s, x12, x13, w, a, bB, bE, bK, bX, bY, sr, al, hl, h0, hk, hX, kk => by
    obtain ⟨g1, g2, g3, g4, g5⟩ := sr
    obtain ⟨z1, z2, z3, z4⟩ := al
    have g6 := srt_le g5
    have lr : ii + 1 + r.length = many := by rw [List.length_cons] at hl; omega
    obtain ⟨G, eG⟩ : ∃ G, G = gon R p1.1 x := ⟨_, rfl⟩
    have hacc : ∀ {z12 : Int} (v : Int), v = (if p1.1 ≤ x ∧ x < p1.2.1 then (if x = p1.1 then gon R x y else p1.2.2 - gon R p1.1 x) else acc) → am_X (d + 1) 10 126 [.ref 120, .ref 121, .ref p, .ref (p + 1), .ref (p + 2), .ref (p + 3), .ref (p + 4), .int (iI more), .int (iI many), .int (iI k), .int (iI x), .int (iI ii), .int (iI z12), .int (iI G)] [.int (iI v), .int (iI k), .ref (p + 4)] h Q := by
      intro z12 v hv
      refine ax_iastO f10_126 bY (by omega) (by omega) rfl (fun hp1 o1 r1 => ?_)
      have w := w.fr r1 (by omega)
      have a := a.fr r1 (by omega)
      have bB := bB.fr r1 (by omega)
      have bE := bE.fr r1 (by omega)
      have bK := bK.fr r1 (by omega)
      have bX := bX.fr r1 (by omega)
      have bY := o1
      refine ax_iinc (ls' := [_, _, _, _, _, _, _, _, _, _, _, _, _, _]) f10_127 rfl (Nat.le_of_ble_eq_true rfl) rfl ?_
      refine ax_goto f10_130 rfl ?_
      refine lp_10a hp i e0 hxy r (ii + 1) _ w a bB bE bK bX (by rw [uZ_uZ] at bY; exact bY) g5 z4 lr (by omega) hk hX (fun h' y12 y13 c1 c2 => ?_)
      refine kk h' y12 y13 ?_ (r1.trans c2)
      show oI h' (p + 4) 48 (uZ Y0 k (mvl R x y (if p1.1 ≤ x ∧ x < p1.2.1 then (if x = p1.1 then gon R x y else p1.2.2 - gon R p1.1 x) else acc) r))
      rw [← hv]
      exact c1
    have K59 : ∀ z : Int, (z = 0 ∨ z = 1) → (z = 1 ↔ (p1.1 ≤ x ∧ x < p1.2.1)) → am_X (d + 1) 10 59 [.ref 120, .ref 121, .ref p, .ref (p + 1), .ref (p + 2), .ref (p + 3), .ref (p + 4), .int (iI more), .int (iI many), .int (iI k), .int (iI x), .int (iI ii), x12, x13] [.int (iI z)] h Q := by
      intro z hz hz2
      refine ax_istore (ls' := [_, _, _, _, _, _, _, _, _, _, _, _, _, _]) f10_59 (Nat.le_of_ble_eq_true rfl) rfl ?_
      refine ax_aload_n f10_61 rfl ?_
      refine ax_aload_n f10_62 rfl ?_
      refine ax_aload_n f10_63 rfl ?_
      refine ax_iload f10_64 rfl ?_
      refine ax_ialdO f10_66 (by decide) bB (by omega) (by omega) rfl ?_
      rw [z1]
      refine ax_iload f10_67 rfl ?_
      refine ax_csI (rest := []) f10_69 (Or.inl rfl) rfl rfl rfl rfl rfl rfl (c_6 w a (by omega) (by omega) (by omega) (by omega)) ?_
      intro _ e_
      obtain rfl := e_.symm
      clear e_
      rw [← eG]
      refine ax_istore (ls' := [_, _, _, _, _, _, _, _, _, _, _, _, _, _]) f10_72 (Nat.le_of_ble_eq_true rfl) rfl ?_
      refine ax_aload f10_74 rfl ?_
      refine ax_iload f10_76 rfl ?_
      refine ax_iload f10_78 rfl ?_
      refine ax_if_ne f10_80 rfl ⟨by omega, by omega⟩ (fun q80 => ?_) (fun q80 => ?_)
      · refine ax_iload f10_91 rfl ?_
        refine ax_aload_n f10_93 rfl ?_
        refine ax_iload f10_94 rfl ?_
        refine ax_ialdO f10_96 (by decide) bB (by omega) (by omega) rfl ?_
        rw [z1]
        refine ax_icmp_ne f10_97 rfl ⟨by omega, by omega⟩ ⟨by omega, by omega⟩ (fun q97 => ?_) (fun q97 => ?_)
        · refine ax_aload f10_118 rfl ?_
          refine ax_iload f10_120 rfl ?_
          refine ax_ialdO f10_122 (by decide) bK (by omega) (by omega) rfl ?_
          rw [z3]
          refine ax_iload f10_123 rfl ?_
          refine ax_isub f10_125 ?_
          exact hacc _ (by rw [if_pos (hz2.mp (by omega)), if_neg (by omega), eG])
        · refine ax_aload_n f10_100 rfl ?_
          refine ax_aload_n f10_101 rfl ?_
          refine ax_iload f10_102 rfl ?_
          refine ax_aload f10_104 rfl ?_
          refine ax_iload f10_106 rfl ?_
          refine ax_ialdO f10_108 (by decide) bX (by omega) (by omega) rfl ?_
          rw [hX]
          refine ax_bipush f10_109 ?_
          refine ax_irem f10_111 (by omega) (by omega) (by omega) (by omega) ?_
          refine ax_csI (rest := [_, _]) f10_112 (Or.inl rfl) rfl rfl rfl rfl rfl rfl (c_6 w a (by omega) (by omega) (by omega) (by omega)) ?_
          intro _ e_
          obtain rfl := e_.symm
          clear e_
          refine ax_goto f10_115 rfl ?_
          rw [show (100 * x + y) % 100 = y by omega]
          exact hacc _ (by rw [if_pos (hz2.mp (by omega)), if_pos (by omega)])
      · refine ax_aload f10_83 rfl ?_
        refine ax_iload f10_85 rfl ?_
        refine ax_ialdO f10_87 (by decide) bY (by omega) (by omega) rfl ?_
        refine ax_goto f10_88 rfl ?_
        rw [uZ_s]
        exact hacc acc (by rw [if_neg (fun z => by have := hz2.mpr z; omega)])
    refine ax_iload f10_29 rfl ?_
    refine ax_iload f10_31 rfl ?_
    refine ax_icmp_ge f10_33 rfl ⟨by omega, by omega⟩ ⟨by omega, by omega⟩ (fun q33 => absurd q33 (by omega)) (fun q33 => ?_)
    refine ax_aload_n f10_36 rfl ?_
    refine ax_iload f10_37 rfl ?_
    refine ax_ialdO f10_39 (by decide) bB (by omega) (by omega) rfl ?_
    rw [z1]
    refine ax_iload f10_40 rfl ?_
    refine ax_icmp_gt f10_42 rfl ⟨by omega, by omega⟩ ⟨by omega, by omega⟩ (fun q42 => ?_) (fun q42 => ?_)
    · refine ax_iconst f10_58 ?_
      exact K59 0 (Or.inl rfl) (by omega)
    · refine ax_iload f10_45 rfl ?_
      refine ax_aload_n f10_47 rfl ?_
      refine ax_iload f10_48 rfl ?_
      refine ax_ialdO f10_50 (by decide) bE (by omega) (by omega) rfl ?_
      rw [z2]
      refine ax_icmp_ge f10_51 rfl ⟨by omega, by omega⟩ ⟨by omega, by omega⟩ (fun q51 => ?_) (fun q51 => ?_)
      · refine ax_iconst f10_58 ?_
        exact K59 0 (Or.inl rfl) (by omega)
      · refine ax_iconst f10_54 ?_
        refine ax_goto f10_55 rfl ?_
        exact K59 1 (Or.inr rfl) (by omega)
theorem lp_10b {d p : Nat} (hp : 127 ≤ p) {R : Int → Int} (i : inv R) {Q : am_R → am_H → Prop} {B E K X : Int → Int} {s e more many : Int} {L : List Pt} (hs : 0 ≤ s) (he : e ≤ 48) (sL : srt s e L) (al : arl B E K 0 L) (hmm : many = L.length ∧ many ≤ 48) : ∀ (r pre : List Pt) (k : Int) {h : am_H} {Y : Int → Int} {x10 x11 x12 x13 : Value} (w : oI h 120 48 R) (a : oI h 121 48 (fun j => R (48 + j))) (bB : oI h p 48 B) (bE : oI h (p + 1) 48 E) (bK : oI h (p + 2) 48 K) (bX : oI h (p + 3) 64 X) (bY : oI h (p + 4) 48 Y) (sN : srt s e (pre ++ r)) (hk : k = pre.length) (hmo : more = (pre ++ r).length) (hmo2 : more ≤ 48) (nx : nxa X k r) (hm : ∀ q : Pt, q ∈ pre ++ r → mvl R q.1 q.2.1 0 L = q.2.2) (ly : lka Y 0 pre)
    (kk : ∀ h' Y' x10 x11 x12 x13, lka Y' 0 (pre ++ r) → oI h' (p + 4) 48 Y' → fr (fun q => q = p + 4) h h' → am_X (d + 1) 10 142 [.ref 120, .ref 121, .ref p, .ref (p + 1), .ref (p + 2), .ref (p + 3), .ref (p + 4), .int (iI more), .int (iI many), .int (iI 0), x10, x11, x12, x13] [] h' Q), am_X (d + 1) 10 3 [.ref 120, .ref 121, .ref p, .ref (p + 1), .ref (p + 2), .ref (p + 3), .ref (p + 4), .int (iI more), .int (iI many), .int (iI k), x10, x11, x12, x13] [] h Q
  | [], pre, k, h, Y, x10, x11, x12, x13, w, a, bB, bE, bK, bX, bY, sN, hk, hmo, hmo2, nx, hm, ly, kk => by
    have hmo : more = pre.length := by rw [List.append_nil] at hmo; exact hmo
    have hk2 : k = more := by omega
    subst hk2
    refine ax_iload f10_3 rfl ?_
    refine ax_iload f10_5 rfl ?_
    refine ax_icmp_ge f10_7 rfl ⟨by omega, by omega⟩ ⟨by omega, by omega⟩ (fun q7 => ?_) (fun q7 => absurd q7 (by omega))
    refine ax_iconst f10_139 ?_
    refine ax_istore (ls' := [_, _, _, _, _, _, _, _, _, _, _, _, _, _]) f10_140 (Nat.le_of_ble_eq_true rfl) rfl ?_
    have hr : pre ++ [] = pre := List.append_nil pre
    exact kk h _ _ _ _ _ (by rw [hr]; exact ly) bY fr_rf
  | q1 :: r, pre, k, h, Y, x10, x11, x12, x13, w, a, bB, bE, bK, bX, bY, sN, hk, hmo, hmo2, nx, hm, ly, kk => by
    have hln : (pre ++ q1 :: r).length = pre.length + r.length + 1 := by simp; omega
    refine ax_iload f10_3 rfl ?_
    refine ax_iload f10_5 rfl ?_
    refine ax_icmp_ge f10_7 rfl ⟨by omega, by omega⟩ ⟨by omega, by omega⟩ (fun q7 => absurd q7 (by omega)) (fun q7 => ?_)
    refine ax_aload f10_10 rfl ?_
    refine ax_iload f10_12 rfl ?_
    refine ax_ialdO f10_14 (by decide) bX (by omega) (by omega) rfl ?_
    obtain ⟨y1, y2⟩ := id nx
    have hm1 := hm q1 (List.mem_append_right _ List.mem_cons_self)
    have g := srt_in sN (List.mem_append_right pre (List.mem_cons_self (a := q1) (l := r)))
    rw [y1]
    refine ax_bipush f10_15 ?_
    refine ax_idiv f10_17 (by omega) (by omega) (by omega) (by omega) ?_
    rw [show (100 * q1.1 + q1.2.1) / 100 = q1.1 by omega]
    refine ax_istore (ls' := [_, _, _, _, _, _, _, _, _, _, _, _, _, _]) f10_18 (Nat.le_of_ble_eq_true rfl) rfl ?_
    refine ax_aload f10_20 rfl ?_
    refine ax_iload f10_22 rfl ?_
    refine ax_iconst f10_24 ?_
    refine ax_iastO f10_25 bY (by omega) (by omega) rfl (fun hp1 o1 r1 => ?_)
    have w := w.fr r1 (by omega)
    have a := a.fr r1 (by omega)
    have bB := bB.fr r1 (by omega)
    have bE := bE.fr r1 (by omega)
    have bK := bK.fr r1 (by omega)
    have bX := bX.fr r1 (by omega)
    have bY := o1
    refine ax_iconst f10_26 ?_
    refine ax_istore (ls' := [_, _, _, _, _, _, _, _, _, _, _, _, _, _]) f10_27 (Nat.le_of_ble_eq_true rfl) rfl ?_
    refine lp_10a (s := s) (e := e) (y := q1.2.1) hp i he (by omega) L 0 0 w a bB bE bK bX bY sL al (by omega) (by omega) (by omega) y1 (fun h' y12 y13 c1 c2 => ?_)
    rw [hm1] at c1
    have w := w.fr c2 (by omega)
    have a := a.fr c2 (by omega)
    have bB := bB.fr c2 (by omega)
    have bE := bE.fr c2 (by omega)
    have bK := bK.fr c2 (by omega)
    have bX := bX.fr c2 (by omega)
    refine ax_iinc (ls' := [_, _, _, _, _, _, _, _, _, _, _, _, _, _]) f10_133 rfl (Nat.le_of_ble_eq_true rfl) rfl ?_
    refine ax_goto f10_136 rfl ?_
    have ha : pre ++ q1 :: r = (pre ++ [q1]) ++ r := by simp
    refine lp_10b hp i hs he sL al hmm r (pre ++ [q1]) (k + 1) w a bB bE bK bX c1 (by rw [← ha]; exact sN) (by simp; omega) (by rw [← ha]; exact hmo) (by omega) y2 (by rw [← ha]; exact hm) (lka_app (lka_cg ly (fun j j1 j2 => uZ_n (by omega))) ⟨by rw [show (0 : Int) + pre.length = k by omega]; exact uZ_s, trivial⟩) (fun h2 z9 z10 z11 z12 z13 d1 d2 d3 => ?_)
    exact kk h2 z9 z10 z11 z12 z13 (by rw [ha]; exact d1) d2 ((r1.trans c2).trans d3)
theorem lp_10c {d p : Nat} (hp : 127 ≤ p) {R : Int → Int} {X Y : Int → Int} {s e more many : Int} {x10 x11 x12 x13 : Value} : ∀ (r pre : List Pt) (k : Int) {h : am_H} {B E K : Int → Int} (w : oI h 120 48 R) (a : oI h 121 48 (fun j => R (48 + j))) (bB : oI h p 48 B) (bE : oI h (p + 1) 48 E) (bK : oI h (p + 2) 48 K) (bX : oI h (p + 3) 64 X) (bY : oI h (p + 4) 48 Y) (sN : srt s e (pre ++ r)) (hk : k = pre.length) (hmo : more = (pre ++ r).length) (hmo2 : more ≤ 48 ∧ 0 ≤ s ∧ e ≤ 48) (nx : nxa X k r) (ly : lka Y k r) (al : arl B E K 0 pre),
    am_X d 10 142 [.ref 120, .ref 121, .ref p, .ref (p + 1), .ref (p + 2), .ref (p + 3), .ref (p + 4), .int (iI more), .int (iI many), .int (iI k), x10, x11, x12, x13] [] h (fun r' h' => rI r' more ∧ (∃ B' E' K' : Int → Int, arl B' E' K' 0 (pre ++ r) ∧ oI h' p 48 B' ∧ oI h' (p + 1) 48 E' ∧ oI h' (p + 2) 48 K' ∧ oI h' (p + 3) 64 X ∧ oI h' (p + 4) 48 Y) ∧ fr (fun q => q = p ∨ q = p + 1 ∨ q = p + 2) h h')
  | [], pre, k, h, B, E, K, w, a, bB, bE, bK, bX, bY, sN, hk, hmo, hmo2, nx, ly, al => by
    have hmo : more = pre.length := by rw [List.append_nil] at hmo; exact hmo
    have hk2 : k = more := by omega
    subst hk2
    refine ax_iload f10_142 rfl ?_
    refine ax_iload f10_144 rfl ?_
    refine ax_icmp_ge f10_146 rfl ⟨by omega, by omega⟩ ⟨by omega, by omega⟩ (fun q146 => ?_) (fun q146 => absurd q146 (by omega))
    refine ax_iload f10_189 rfl ?_
    refine ax_ireturn f10_191 rfl rfl ?_
    have hr : pre ++ [] = pre := List.append_nil pre
    exact ⟨rfl, ⟨B, E, K, by rw [hr]; exact al, bB, bE, bK, bX, bY⟩, fr_rf⟩
  | q1 :: r, pre, k, h, B, E, K, w, a, bB, bE, bK, bX, bY, sN, hk, hmo, hmo2, nx, ly, al => by
    have hln : (pre ++ q1 :: r).length = pre.length + r.length + 1 := by simp; omega
    obtain ⟨y1, y2⟩ := nx
    have g := srt_in sN (List.mem_append_right pre (List.mem_cons_self (a := q1) (l := r)))
    refine ax_iload f10_142 rfl ?_
    refine ax_iload f10_144 rfl ?_
    refine ax_icmp_ge f10_146 rfl ⟨by omega, by omega⟩ ⟨by omega, by omega⟩ (fun q146 => absurd q146 (by omega)) (fun q146 => ?_)
    refine ax_aload_n f10_149 rfl ?_
    refine ax_iload f10_150 rfl ?_
    refine ax_aload f10_152 rfl ?_
    refine ax_iload f10_154 rfl ?_
    refine ax_ialdO f10_156 (by decide) bX (by omega) (by omega) rfl ?_
    rw [y1]
    refine ax_bipush f10_157 ?_
    refine ax_idiv f10_159 (by omega) (by omega) (by omega) (by omega) ?_
    rw [show (100 * q1.1 + q1.2.1) / 100 = q1.1 by omega]
    refine ax_iastO f10_160 bB (by omega) (by omega) rfl (fun hp1 o1 r1 => ?_)
    have w := w.fr r1 (by omega)
    have a := a.fr r1 (by omega)
    have bB := o1
    have bE := bE.fr r1 (by omega)
    have bK := bK.fr r1 (by omega)
    have bX := bX.fr r1 (by omega)
    have bY := bY.fr r1 (by omega)
    refine ax_aload_n f10_161 rfl ?_
    refine ax_iload f10_162 rfl ?_
    refine ax_aload f10_164 rfl ?_
    refine ax_iload f10_166 rfl ?_
    refine ax_ialdO f10_168 (by decide) bX (by omega) (by omega) rfl ?_
    rw [y1]
    refine ax_bipush f10_169 ?_
    refine ax_irem f10_171 (by omega) (by omega) (by omega) (by omega) ?_
    rw [show (100 * q1.1 + q1.2.1) % 100 = q1.2.1 by omega]
    refine ax_iastO f10_172 bE (by omega) (by omega) rfl (fun hp2 o2 r2 => ?_)
    have w := w.fr r2 (by omega)
    have a := a.fr r2 (by omega)
    have bB := bB.fr r2 (by omega)
    have bE := o2
    have bK := bK.fr r2 (by omega)
    have bX := bX.fr r2 (by omega)
    have bY := bY.fr r2 (by omega)
    refine ax_aload f10_173 rfl ?_
    refine ax_iload f10_175 rfl ?_
    refine ax_aload f10_177 rfl ?_
    refine ax_iload f10_179 rfl ?_
    refine ax_ialdO f10_181 (by decide) bY (by omega) (by omega) rfl ?_
    rw [ly.1]
    refine ax_iastO f10_182 bK (by omega) (by omega) rfl (fun hp3 o3 r3 => ?_)
    have w := w.fr r3 (by omega)
    have a := a.fr r3 (by omega)
    have bB := bB.fr r3 (by omega)
    have bE := bE.fr r3 (by omega)
    have bK := o3
    have bX := bX.fr r3 (by omega)
    have bY := bY.fr r3 (by omega)
    refine ax_iinc (ls' := [_, _, _, _, _, _, _, _, _, _, _, _, _, _]) f10_183 rfl (Nat.le_of_ble_eq_true rfl) rfl ?_
    refine ax_goto f10_186 rfl ?_
    have ha : pre ++ q1 :: r = (pre ++ [q1]) ++ r := by simp
    have ih := lp_10c (d := d) (x10 := x10) (x11 := x11) (x12 := x12) (x13 := x13) (many := many) (more := more) hp r (pre ++ [q1]) (k + 1) w a bB bE bK bX bY (by rw [← ha]; exact sN) (by simp; omega) (by rw [← ha]; exact hmo) (by omega) y2 ly.2 (arl_app (arl_cg al (fun j j1 j2 => ⟨uZ_n (by omega), uZ_n (by omega), uZ_n (by omega)⟩)) ⟨by rw [show (0 : Int) + pre.length = k by omega]; exact uZ_s, by rw [show (0 : Int) + pre.length = k by omega]; exact uZ_s, by rw [show (0 : Int) + pre.length = k by omega]; exact uZ_s, trivial⟩)
    refine am_X_mono ih (Nat.le_refl _) (fun r' h' z => ⟨z.1, by rw [ha]; exact z.2.1, ?_⟩)
    exact ((r1.mono fun x e => by omega).trans (r2.mono fun x e => by omega)).trans ((r3.mono fun x e => by omega).trans z.2.2)
theorem c_10 {h : am_H} {p : Nat} (hp : 127 ≤ p) {R : Int → Int} (i : inv R) {B E K X Y : Int → Int} (w : oI h 120 48 R) (a : oI h 121 48 (fun j => R (48 + j))) (bB : oI h p 48 B) (bE : oI h (p + 1) 48 E) (bK : oI h (p + 2) 48 K) (bX : oI h (p + 3) 64 X) (bY : oI h (p + 4) 48 Y) {L N : List Pt} {s e : Int} (h0 : 0 ≤ s) (he : e ≤ 48) (sL : srt s e L) (sN : srt s e N) (al : arl B E K 0 L) (nx : nxa X 0 N) (hm : ∀ q : Pt, q ∈ N → mvl R q.1 q.2.1 0 L = q.2.2) : am_X 1 10 0 (am_ent 10 [.ref 120, .ref 121, .ref p, .ref (p + 1), .ref (p + 2), .ref (p + 3), .ref (p + 4), .int (iI N.length), .int (iI L.length)]) [] h (fun r h' => rI r N.length ∧ (∃ B' E' K' Y' : Int → Int, arl B' E' K' 0 N ∧ oI h' p 48 B' ∧ oI h' (p + 1) 48 E' ∧ oI h' (p + 2) 48 K' ∧ oI h' (p + 3) 64 X ∧ oI h' (p + 4) 48 Y') ∧ fr (fun q => p ≤ q ∧ q ≤ p + 4) h h') := by
  show am_X 1 10 0 [.ref 120, .ref 121, .ref p, .ref (p + 1), .ref (p + 2), .ref (p + 3), .ref (p + 4), .int (iI N.length), .int (iI L.length), am_u, am_u, am_u, am_u, am_u] [] h _
  have ll := srt_le sL
  have ln := srt_le sN
  refine ax_iconst f10_0 ?_
  refine ax_istore (ls' := [_, _, _, _, _, _, _, _, _, _, _, _, _, _]) f10_1 (Nat.le_of_ble_eq_true rfl) rfl ?_
  refine lp_10b (d := 0) hp i h0 he sL al ⟨rfl, by omega⟩ N [] 0 w a bB bE bK bX bY sN rfl rfl (by omega) nx hm trivial (fun h1 Y1 z10 z11 z12 z13 c1 c2 c3 => ?_)
  have w := w.fr c3 (by omega)
  have a := a.fr c3 (by omega)
  have bB := bB.fr c3 (by omega)
  have bE := bE.fr c3 (by omega)
  have bK := bK.fr c3 (by omega)
  have bX := bX.fr c3 (by omega)
  have ih := lp_10c (d := 1) (x10 := z10) (x11 := z11) (x12 := z12) (x13 := z13) (many := L.length) (more := N.length) hp N [] 0 w a bB bE bK bX c2 sN rfl rfl ⟨by omega, h0, he⟩ nx c1 trivial
  refine am_X_mono ih (Nat.le_refl _) (fun r' h' z => ⟨z.1, ?_, ?_⟩)
  · obtain ⟨B', E', K', q1, q2, q3, q4, q5, q6⟩ := z.2.1
    exact ⟨B', E', K', Y1, q1, q2, q3, q4, q5, q6⟩
  · exact (c3.mono fun x e => by omega).trans (z.2.2.mono fun x e => by omega)
end MVU
