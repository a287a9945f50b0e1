/-! ===== the law's search, level by level ===== -/
section SED
/-- nothing is found yet in these parts -/
def zer (Fd : Int → Int) (L : List Pt) : Prop := ∀ q : Pt, q ∈ L → ∀ j, q.1 ≤ j → j < q.2.1 → Fd j = 0
theorem zer_app {Fd : Int → Int} {L M : List Pt} (a : zer Fd L) (b : zer Fd M) : zer Fd (L ++ M) := fun q h => by
  rcases List.mem_append.mp h with h | h
  · exact a q h
  · exact b q h
theorem zer_chl {R Fd : Int → Int} {w : Int} {p : Pt} (h : p.1 < p.2.1) (z : ∀ j, p.1 ≤ j → j < p.2.1 → Fd j = 0) : zer Fd (chl R w p) := fun q hq j j1 j2 => by
  obtain ⟨⟨-, c2⟩, e⟩ := mem_chl hq
  have m := hp_in (R := R) (w := w) (p := p) (by omega)
  rcases e with e | e
  · rw [e] at j1 j2
    exact z j j1 (by have : j < hfp R w p := j2; omega)
  · rw [e] at j1 j2
    exact z j (by have : hfp R w p ≤ j := j1; omega) j2
theorem nx_2 {X : Int → Int} {N : List Pt} {v v' : Int} {q1 q2 : Pt} (nx : nxa X 0 N) (e1 : v = 100 * q1.1 + q1.2.1) (e2 : v' = 100 * q2.1 + q2.2.1) : nxa (uZ (uZ X N.length v) ((N.length : Int) + 1) v') 0 (N ++ [q1, q2]) := by
  refine nxa_app (nxa_cg nx (fun j j1 j2 => by rw [uZ_n (by omega), uZ_n (by omega)])) ⟨?_, ?_, trivial⟩
  · rw [Int.zero_add, uZ_n (by omega), uZ_s]; exact e1
  · rw [Int.zero_add, uZ_s]; exact e2
theorem nx_1a {X : Int → Int} {N : List Pt} {v v' : Int} {q1 : Pt} (nx : nxa X 0 N) (e1 : v = 100 * q1.1 + q1.2.1) : nxa (uZ (uZ X N.length v) ((N.length : Int) + 1) v') 0 (N ++ [q1]) := by
  refine nxa_app (nxa_cg nx (fun j j1 j2 => by rw [uZ_n (by omega), uZ_n (by omega)])) ⟨?_, trivial⟩
  rw [Int.zero_add, uZ_n (by omega), uZ_s]; exact e1
theorem nx_1b {X : Int → Int} {N : List Pt} {v v' : Int} {q1 : Pt} (nx : nxa X 0 N) (e1 : v' = 100 * q1.1 + q1.2.1) : nxa (uZ (uZ X N.length v) ((N.length : Int) + 0) v') 0 (N ++ [q1]) := by
  refine nxa_app (nxa_cg nx (fun j j1 j2 => by rw [uZ_n (by omega), uZ_n (by omega)])) ⟨?_, trivial⟩
  rw [Int.zero_add, Int.add_zero, uZ_s]; exact e1
theorem nx_0 {X : Int → Int} {N : List Pt} {v v' : Int} (nx : nxa X 0 N) : nxa (uZ (uZ X N.length v) ((N.length : Int) + 0) v') 0 (N ++ []) := by
  rw [List.append_nil]
  exact nxa_cg nx (fun j j1 j2 => by rw [uZ_n (by omega), uZ_n (by omega)])
theorem lp_9a {d p qf : Nat} (hq : 125 ≤ qf) {Q : am_R → am_H → Prop} {fm to la wy lk many more k x y : Int} : ∀ (n : Nat) (r : Int) {h : am_H} {Fd : Int → Int} (bF : oI h qf 48 Fd) (h1 : r + n = y) (h2 : 0 ≤ r) (hy : y ≤ 48) (kk : ∀ h', oI h' qf 48 (fun j => if r ≤ j ∧ j < y then 1 else Fd j) → fr (fun q => q = qf) h h' → am_X d 9 156 [.ref 120, .ref 121, .ref 122, .int (iI fm), .int (iI to), .int (iI la), .int (iI wy), .ref qf, .ref p, .ref (p + 1), .ref (p + 2), .ref (p + 3), .ref (p + 4), .int (iI lk), .int (iI many), .int (iI more), .int (iI k), .int (iI x), .int (iI y), .int (iI 1), .int (iI y)] [] h' Q), am_X d 9 106 [.ref 120, .ref 121, .ref 122, .int (iI fm), .int (iI to), .int (iI la), .int (iI wy), .ref qf, .ref p, .ref (p + 1), .ref (p + 2), .ref (p + 3), .ref (p + 4), .int (iI lk), .int (iI many), .int (iI more), .int (iI k), .int (iI x), .int (iI y), .int (iI 1), .int (iI r)] [] h Q
  | 0, r, h, Fd, bF, h1, h2, hy, kk => by
    have h1 : r = y := by omega
    subst h1
    refine ax_iload f9_106 rfl ?_
    refine ax_iload f9_108 rfl ?_
    refine ax_icmp_ge f9_110 rfl ⟨by omega, by omega⟩ ⟨by omega, by omega⟩ (fun q110 => ?_) (fun q110 => absurd q110 (by omega))
    exact kk h (bF.eq (fun j j1 j2 => if_neg (by omega))) fr_rf
  | n + 1, r, h, Fd, bF, h1, h2, hy, kk => by
    refine ax_iload f9_106 rfl ?_
    refine ax_iload f9_108 rfl ?_
    refine ax_icmp_ge f9_110 rfl ⟨by omega, by omega⟩ ⟨by omega, by omega⟩ (fun q110 => absurd q110 (by omega)) (fun q110 => ?_)
    refine ax_iload f9_113 rfl ?_
    refine ax_if_ne f9_115 rfl ⟨by omega, by omega⟩ (fun q115 => ?_) (fun q115 => absurd q115 (by omega))
    refine ax_aload f9_127 rfl ?_
    refine ax_iload f9_129 rfl ?_
    refine ax_iload f9_131 rfl ?_
    refine ax_if_ne f9_133 rfl ⟨by omega, by omega⟩ (fun q133 => ?_) (fun q133 => absurd q133 (by omega))
    refine ax_iconst f9_144 ?_
    refine ax_goto f9_145 rfl ?_
    refine ax_iastO f9_149 bF (by omega) (by omega) rfl (fun hp1 o1 r1 => ?_)
    have bF := o1
    refine ax_iinc (ls' := [_, _, _, _, _, _, _, _, _, _, _, _, _, _, _, _, _, _, _, _, _]) f9_150 rfl (Nat.le_of_ble_eq_true rfl) rfl ?_
    refine ax_goto f9_153 rfl ?_
    refine lp_9a hq n (r + 1) bF (by omega) (by omega) hy (fun h' g1 g2 => ?_)
    refine kk h' (g1.eq (fun j j1 j2 => ?_)) (r1.trans g2)
    unfold uZ
    by_cases c : j = r
    · rw [if_pos (by omega), if_neg (by omega), if_pos c]
    · by_cases c2 : r ≤ j ∧ j < y
      · rw [if_pos c2, if_pos (by omega)]
      · rw [if_neg c2, if_neg (by omega), if_neg c]
theorem lp_9b {d p qf : Nat} (hp : 127 ≤ p) (hq : 125 ≤ qf ∧ ¬ qf = 126 ∧ qf < p) {R : Int → Int} (i : inv R) {Q : am_R → am_H → Prop} {B E K Y : Int → Int} {s e many fm to la wy : Int} (hw : wy = 0 ∨ wy = 1 ∨ wy = 2) (hs : 0 ≤ s) (he : e ≤ 48) : ∀ (r N : List Pt) (k lk c : Int) {h : am_H} {Fd X : Int → Int} {x17 x18 x19 x20 : Value} (w : oI h 120 48 R) (a : oI h 121 48 (fun j => R (48 + j))) (l : oI h 122 48 (fun j => R (96 + j))) (bF : oI h qf 48 Fd) (bB : oI h p 48 B) (bE : oI h (p + 1) 48 E) (bK : oI h (p + 2) 48 K) (bX : oI h (p + 3) 64 X) (bY : oI h (p + 4) 48 Y) (sN : srt s c N) (sr : srt c e r) (al : arl B E K k r) (hk : k + r.length = many ∧ 0 ≤ k ∧ many ≤ 48) (nx : nxa X 0 N) (zN : zer Fd N) (zr : zer Fd r)
    (kk : ∀ h' lk' F' X' x17 x18 x19 x20, oI h' qf 48 F' → oI h' (p + 3) 64 X' → nxa X' 0 (N ++ nxl R wy r) → lk' + sL R wy (nxl R wy r) = lk + sL R wy r → (∀ j, F' j + sF R wy j (nxl R wy r) = Fd j + sF R wy j r) → zer F' (N ++ nxl R wy r) → fr (fun q => q = qf ∨ q = p + 3) h h' → am_X (d + 2) 9 301 [.ref 120, .ref 121, .ref 122, .int (iI fm), .int (iI to), .int (iI la), .int (iI wy), .ref qf, .ref p, .ref (p + 1), .ref (p + 2), .ref (p + 3), .ref (p + 4), .int (iI lk'), .int (iI many), .int (iI (N ++ nxl R wy r).length), .int (iI many), x17, x18, x19, x20] [] h' Q), am_X (d + 2) 9 43 [.ref 120, .ref 121, .ref 122, .int (iI fm), .int (iI to), .int (iI la), .int (iI wy), .ref qf, .ref p, .ref (p + 1), .ref (p + 2), .ref (p + 3), .ref (p + 4), .int (iI lk), .int (iI many), .int (iI N.length), .int (iI k), x17, x18, x19, x20] [] h Q
  | [], N, k, lk, c, h, Fd, X, x17, x18, x19, x20, w, a, l, bF, bB, bE, bK, bX, bY, sN, sr, al, hk, nx, zN, zr, kk => by
    have hk2 : k = many := by have := hk.1; simpa using this
    subst hk2
    refine ax_iload f9_43 rfl ?_
    refine ax_iload f9_45 rfl ?_
    refine ax_icmp_ge f9_47 rfl ⟨by omega, by omega⟩ ⟨by omega, by omega⟩ (fun q47 => ?_) (fun q47 => absurd q47 (by omega))
    have hn : N ++ nxl R wy [] = N := List.append_nil N
    have kk := kk h lk Fd X x17 x18 x19 x20
    rw [hn] at kk
    exact kk bF bX nx rfl (fun j => rfl) zN fr_rf
  | p1 :: r, N, k, lk, c, h, Fd, X, x17, x18, x19, x20, w, a, l, bF, bB, bE, bK, bX, bY, sN, sr, al, hk, nx, zN, zr, kk => by
    have g6 := srt_le sr.2.2.2.2
    obtain ⟨g1, g2, g3, g4, g5⟩ := sr
    obtain ⟨z1, z2, z3, z4⟩ := al
    have lr : k + 1 + r.length = many := by rw [List.length_cons] at hk; omega
    have ln := srt_le sN
    have gb := bok_in i.1.1 (a := p1.1) (b := p1.2.1) (by omega) (by omega) (by omega)
    have aw := i.aw (r := p1.1) (by omega) (by omega)
    have zp : ∀ j, p1.1 ≤ j → j < p1.2.1 → Fd j = 0 := zr p1 List.mem_cons_self
    have zr2 : zer Fd r := fun q hq => zr q (List.mem_cons_of_mem _ hq)
    have ch := SL_chl (w := wy) i (p := p1) (by omega) g2 (by omega)
    have scl := srt_chl (w := wy) i (p := p1) (by omega) g2 (by omega) g3 g4
    have K295 : ∀ {h1 : am_H} (lk1 : Int) (F1 X1 : Int → Int) {x17 x18 x19 x20 : Value}, oI h1 120 48 R → oI h1 121 48 (fun j => R (48 + j)) → oI h1 122 48 (fun j => R (96 + j)) → oI h1 qf 48 F1 → oI h1 p 48 B → oI h1 (p + 1) 48 E → oI h1 (p + 2) 48 K → oI h1 (p + 3) 64 X1 → oI h1 (p + 4) 48 Y → lk1 = lk + owl R p1 → (∀ j, F1 j = Fd j + owf R p1 j) → zer F1 (N ++ chl R wy p1) → nxa X1 0 (N ++ chl R wy p1) → fr (fun q => q = qf ∨ q = p + 3) h h1 → am_X (d + 2) 9 295 [.ref 120, .ref 121, .ref 122, .int (iI fm), .int (iI to), .int (iI la), .int (iI wy), .ref qf, .ref p, .ref (p + 1), .ref (p + 2), .ref (p + 3), .ref (p + 4), .int (iI lk1), .int (iI many), .int (iI (N ++ chl R wy p1).length), .int (iI k), x17, x18, x19, x20] [] h1 Q := by
      intro h1 lk1 F1 X1 x17 x18 x19 x20 w a l bF bB bE bK bX bY e1 e2 e3 e4 F
      refine ax_iinc (ls' := [_, _, _, _, _, _, _, _, _, _, _, _, _, _, _, _, _, _, _, _, _]) f9_295 rfl (Nat.le_of_ble_eq_true rfl) rfl ?_
      refine ax_goto f9_298 rfl ?_
      have ha : N ++ nxl R wy (p1 :: r) = (N ++ chl R wy p1) ++ nxl R wy r := (List.append_assoc _ _ _).symm
      refine lp_9b hp hq i hw hs he r (N ++ chl R wy p1) (k + 1) lk1 p1.2.1 w a l bF bB bE bK bX bY (srt_app sN (srt_lo scl g1)) g5 z4 ⟨by omega, by omega, by omega⟩ e4 e3 (fun q hq j j1 j2 => by
        have s := srt_in g5 hq
        rw [e2, zr2 q hq j j1 j2]
        unfold owf
        rw [if_neg (by omega)]; rfl) (fun h' lk' F' X' y17 y18 y19 y20 c1 c2 c3 c4 c5 c6 c7 => ?_)
      rw [← ha]
      refine kk h' lk' F' X' y17 y18 y19 y20 c1 c2 (by rw [ha]; exact c3) ?_ (fun j => ?_) (by rw [ha]; exact c6) (F.trans c7)
      · show lk' + sL R wy (chl R wy p1 ++ nxl R wy r) = lk + (SL R wy p1.1 p1.2.1 p1.2.2 + sL R wy r)
        rw [sL_app, ch.1]; omega
      · show F' j + sF R wy j (chl R wy p1 ++ nxl R wy r) = Fd j + (SF R wy p1.1 p1.2.1 p1.2.2 j + sF R wy j r)
        have := c5 j
        have := e2 j
        rw [sF_app, ch.2]; omega
    refine ax_iload f9_43 rfl ?_
    refine ax_iload f9_45 rfl ?_
    refine ax_icmp_ge f9_47 rfl ⟨by omega, by omega⟩ ⟨by omega, by omega⟩ (fun q47 => absurd q47 (by omega)) (fun q47 => ?_)
    refine ax_aload f9_50 rfl ?_
    refine ax_iload f9_52 rfl ?_
    refine ax_ialdO f9_54 (by decide) bB (by omega) (by omega) rfl ?_
    rw [z1]
    refine ax_istore (ls' := [_, _, _, _, _, _, _, _, _, _, _, _, _, _, _, _, _, _, _, _, _]) f9_55 (Nat.le_of_ble_eq_true rfl) rfl ?_
    refine ax_aload f9_57 rfl ?_
    refine ax_iload f9_59 rfl ?_
    refine ax_ialdO f9_61 (by decide) bE (by omega) (by omega) rfl ?_
    rw [z2]
    refine ax_istore (ls' := [_, _, _, _, _, _, _, _, _, _, _, _, _, _, _, _, _, _, _, _, _]) f9_62 (Nat.le_of_ble_eq_true rfl) rfl ?_
    refine ax_aload f9_64 rfl ?_
    refine ax_iload f9_66 rfl ?_
    refine ax_ialdO f9_68 (by decide) bK (by omega) (by omega) rfl ?_
    rw [z3]
    refine ax_aload_n f9_69 rfl ?_
    refine ax_iload f9_70 rfl ?_
    refine ax_iload f9_72 rfl ?_
    refine ax_csI (rest := [_]) f9_74 (Or.inl rfl) rfl rfl rfl rfl rfl rfl (c_5 w (by omega) (by omega) (by omega)) ?_
    intro _ e_
    obtain rfl := e_.symm
    clear e_
    refine ax_icmp_ne f9_77 rfl ⟨by omega, by omega⟩ ⟨by omega, by omega⟩ (fun q77 => ?_) (fun q77 => ?_)
    · refine ax_iconst f9_84 ?_
      refine ax_istore (ls' := [_, _, _, _, _, _, _, _, _, _, _, _, _, _, _, _, _, _, _, _, _]) f9_85 (Nat.le_of_ble_eq_true rfl) rfl ?_
      refine ax_iload f9_87 rfl ?_
      refine ax_iload f9_89 rfl ?_
      refine ax_if_eq f9_91 rfl ⟨by omega, by omega⟩ (fun q91 => ?_) (fun q91 => absurd q91 (by omega))
      refine ax_iconst f9_98 ?_
      refine ax_iadd f9_99 ?_
      refine ax_istore (ls' := [_, _, _, _, _, _, _, _, _, _, _, _, _, _, _, _, _, _, _, _, _]) f9_100 (Nat.le_of_ble_eq_true rfl) rfl ?_
      refine ax_iload f9_102 rfl ?_
      refine ax_istore (ls' := [_, _, _, _, _, _, _, _, _, _, _, _, _, _, _, _, _, _, _, _, _]) f9_104 (Nat.le_of_ble_eq_true rfl) rfl ?_
      by_cases cy : p1.2.1 = p1.1 + 1
      · have F : fr (fun q => q = qf ∨ q = p + 3) h h := fr_rf
        have hc : chl R wy p1 = [] := if_pos (Or.inr cy)
        refine ax_iload f9_106 rfl ?_
        refine ax_iload f9_108 rfl ?_
        refine ax_icmp_ge f9_110 rfl ⟨by omega, by omega⟩ ⟨by omega, by omega⟩ (fun q110 => absurd q110 (by omega)) (fun q110 => ?_)
        refine ax_iload f9_113 rfl ?_
        refine ax_if_ne f9_115 rfl ⟨by omega, by omega⟩ (fun q115 => absurd q115 (by omega)) (fun q115 => ?_)
        refine ax_iload f9_118 rfl ?_
        refine ax_iload f9_120 rfl ?_
        refine ax_iconst f9_122 ?_
        refine ax_iadd f9_123 ?_
        refine ax_icmp_ne f9_124 rfl ⟨by omega, by omega⟩ ⟨by omega, by omega⟩ (fun q124 => absurd q124 (by omega)) (fun q124 => ?_)
        refine ax_aload f9_127 rfl ?_
        refine ax_iload f9_129 rfl ?_
        refine ax_iload f9_131 rfl ?_
        refine ax_if_ne f9_133 rfl ⟨by omega, by omega⟩ (fun q133 => absurd q133 (by omega)) (fun q133 => ?_)
        refine ax_aload_n f9_136 rfl ?_
        refine ax_iload f9_137 rfl ?_
        refine ax_ialdO f9_139 (by decide) a (by omega) (by omega) rfl ?_
        refine ax_iconst f9_140 ?_
        refine ax_icmp_ne f9_141 rfl ⟨by omega, by omega⟩ ⟨by omega, by omega⟩ (fun q141 => ?_) (fun q141 => ?_)
        · refine ax_iconst f9_148 ?_
          refine ax_iastO f9_149 bF (by omega) (by omega) rfl (fun hp1 o1 r1 => ?_)
          have w := w.fr r1 (by omega)
          have a := a.fr r1 (by omega)
          have l := l.fr r1 (by omega)
          have bF := o1
          have bB := bB.fr r1 (by omega)
          have bE := bE.fr r1 (by omega)
          have bK := bK.fr r1 (by omega)
          have bX := bX.fr r1 (by omega)
          have bY := bY.fr r1 (by omega)
          have F := F.trans (r1.mono fun x e => by omega)
          refine ax_iinc (ls' := [_, _, _, _, _, _, _, _, _, _, _, _, _, _, _, _, _, _, _, _, _]) f9_150 rfl (Nat.le_of_ble_eq_true rfl) rfl ?_
          refine ax_goto f9_153 rfl ?_
          refine ax_iload f9_106 rfl ?_
          refine ax_iload f9_108 rfl ?_
          refine ax_icmp_ge f9_110 rfl ⟨by omega, by omega⟩ ⟨by omega, by omega⟩ (fun q110 => ?_) (fun q110 => absurd q110 (by omega))
          refine ax_iload f9_156 rfl ?_
          refine ax_if_ne f9_158 rfl ⟨by omega, by omega⟩ (fun q158 => absurd q158 (by omega)) (fun q158 => ?_)
          refine ax_iload f9_161 rfl ?_
          refine ax_iload f9_163 rfl ?_
          refine ax_iconst f9_165 ?_
          refine ax_iadd f9_166 ?_
          refine ax_icmp_le f9_167 rfl ⟨by omega, by omega⟩ ⟨by omega, by omega⟩ (fun q167 => ?_) (fun q167 => absurd q167 (by omega))
          have zN2 : zer (uZ Fd p1.1 0) N := fun q hq j j1 j2 => by
            have s := srt_in sN hq
            rw [uZ_n (by omega)]; exact zN q hq j j1 j2
          have K := K295 (lk + 1) _ X (x17 := .int (iI p1.1)) (x18 := .int (iI p1.2.1)) (x19 := .int (iI 0)) (x20 := .int (iI (p1.1 + 1))) w a l bF bB bE bK bX bY (by unfold owl; rw [if_neg (by omega)]) (fun j => by
            unfold uZ owf
            by_cases c : j = p1.1
            · rw [if_pos c, c, zp p1.1 (by omega) (by omega)]
              rw [if_neg (by omega)]; rfl
            · rw [if_neg c, if_neg (by omega)]; omega) (by rw [hc, List.append_nil]; exact zN2) (by rw [hc, List.append_nil]; exact nx) F
          rw [show (N ++ chl R wy p1).length = N.length by rw [hc, List.append_nil]] at K
          exact K
        · refine ax_iconst f9_144 ?_
          refine ax_goto f9_145 rfl ?_
          refine ax_iastO f9_149 bF (by omega) (by omega) rfl (fun hp1 o1 r1 => ?_)
          have w := w.fr r1 (by omega)
          have a := a.fr r1 (by omega)
          have l := l.fr r1 (by omega)
          have bF := o1
          have bB := bB.fr r1 (by omega)
          have bE := bE.fr r1 (by omega)
          have bK := bK.fr r1 (by omega)
          have bX := bX.fr r1 (by omega)
          have bY := bY.fr r1 (by omega)
          have F := F.trans (r1.mono fun x e => by omega)
          refine ax_iinc (ls' := [_, _, _, _, _, _, _, _, _, _, _, _, _, _, _, _, _, _, _, _, _]) f9_150 rfl (Nat.le_of_ble_eq_true rfl) rfl ?_
          refine ax_goto f9_153 rfl ?_
          refine ax_iload f9_106 rfl ?_
          refine ax_iload f9_108 rfl ?_
          refine ax_icmp_ge f9_110 rfl ⟨by omega, by omega⟩ ⟨by omega, by omega⟩ (fun q110 => ?_) (fun q110 => absurd q110 (by omega))
          refine ax_iload f9_156 rfl ?_
          refine ax_if_ne f9_158 rfl ⟨by omega, by omega⟩ (fun q158 => absurd q158 (by omega)) (fun q158 => ?_)
          refine ax_iload f9_161 rfl ?_
          refine ax_iload f9_163 rfl ?_
          refine ax_iconst f9_165 ?_
          refine ax_iadd f9_166 ?_
          refine ax_icmp_le f9_167 rfl ⟨by omega, by omega⟩ ⟨by omega, by omega⟩ (fun q167 => ?_) (fun q167 => absurd q167 (by omega))
          have zN2 : zer (uZ Fd p1.1 1) N := fun q hq j j1 j2 => by
            have s := srt_in sN hq
            rw [uZ_n (by omega)]; exact zN q hq j j1 j2
          have K := K295 (lk + 1) _ X (x17 := .int (iI p1.1)) (x18 := .int (iI p1.2.1)) (x19 := .int (iI 0)) (x20 := .int (iI (p1.1 + 1))) w a l bF bB bE bK bX bY (by unfold owl; rw [if_neg (by omega)]) (fun j => by
            unfold uZ owf
            by_cases c : j = p1.1
            · rw [if_pos c, c, zp p1.1 (by omega) (by omega)]
              rw [if_pos (by omega)]; rfl
            · rw [if_neg c, if_neg (by omega)]; omega) (by rw [hc, List.append_nil]; exact zN2) (by rw [hc, List.append_nil]; exact nx) F
          rw [show (N ++ chl R wy p1).length = N.length by rw [hc, List.append_nil]] at K
          exact K
      · refine ax_iload f9_106 rfl ?_
        refine ax_iload f9_108 rfl ?_
        refine ax_icmp_ge f9_110 rfl ⟨by omega, by omega⟩ ⟨by omega, by omega⟩ (fun q110 => absurd q110 (by omega)) (fun q110 => ?_)
        refine ax_iload f9_113 rfl ?_
        refine ax_if_ne f9_115 rfl ⟨by omega, by omega⟩ (fun q115 => absurd q115 (by omega)) (fun q115 => ?_)
        refine ax_iload f9_118 rfl ?_
        refine ax_iload f9_120 rfl ?_
        refine ax_iconst f9_122 ?_
        refine ax_iadd f9_123 ?_
        refine ax_icmp_ne f9_124 rfl ⟨by omega, by omega⟩ ⟨by omega, by omega⟩ (fun q124 => ?_) (fun q124 => absurd q124 (by omega))
        obtain ⟨M, eM⟩ : ∃ M, M = hlf (vl R wy) p1.1 p1.2.1 := ⟨_, rfl⟩
        have hM := hlf_in (vl R wy) (a := p1.1) (b := p1.2.1) (by omega)
        rw [← eM] at hM
        obtain ⟨G, eG⟩ : ∃ G, G = gon R p1.1 M := ⟨_, rfl⟩
        have hG := gon_in i (x := p1.1) (y := M) (by omega) (by omega) (by omega)
        rw [← eG] at hG
        refine ax_iload f9_156 rfl ?_
        refine ax_if_ne f9_158 rfl ⟨by omega, by omega⟩ (fun q158 => absurd q158 (by omega)) (fun q158 => ?_)
        refine ax_iload f9_161 rfl ?_
        refine ax_iload f9_163 rfl ?_
        refine ax_iconst f9_165 ?_
        refine ax_iadd f9_166 ?_
        refine ax_icmp_le f9_167 rfl ⟨by omega, by omega⟩ ⟨by omega, by omega⟩ (fun q167 => absurd q167 (by omega)) (fun q167 => ?_)
        refine ax_aload_n f9_170 rfl ?_
        refine ax_aload_n f9_171 rfl ?_
        refine ax_iload f9_172 rfl ?_
        refine ax_iload f9_174 rfl ?_
        refine ax_iload f9_176 rfl ?_
        refine ax_csI (rest := []) f9_178 (Or.inl rfl) rfl rfl rfl rfl rfl rfl (c_8 w l hw (fun j j1 j2 => vl_ival i wy j j1 j2) (by omega) (by omega) (by omega)) ?_
        intro _ e_
        obtain rfl := e_.symm
        clear e_
        rw [← eM]
        refine ax_istore (ls' := [_, _, _, _, _, _, _, _, _, _, _, _, _, _, _, _, _, _, _, _, _]) f9_181 (Nat.le_of_ble_eq_true rfl) rfl ?_
        have F : fr (fun q => q = qf ∨ q = p + 3) h h := fr_rf
        have hc : chl R wy p1 = (if 0 < G then [(p1.1, M, G)] else []) ++ (if G < p1.2.2 then [(M, p1.2.1, p1.2.2 - G)] else []) := by
          unfold chl
          rw [if_neg (by omega)]
          have e1 : hfp R wy p1 = M := eM.symm
          have e2 : gp R wy p1 = G := by unfold gp; rw [e1]; exact eG.symm
          rw [e1, e2]
        have zc := zer_chl (R := R) (w := wy) g2 zp
        by_cases c1 : 0 < G
        · by_cases c2 : G < p1.2.2
          · refine ax_aload f9_183 rfl ?_
            refine ax_iload f9_185 rfl ?_
            refine ax_aload_n f9_187 rfl ?_
            refine ax_aload_n f9_188 rfl ?_
            refine ax_iload f9_189 rfl ?_
            refine ax_iload f9_191 rfl ?_
            refine ax_csI (rest := [_, _]) f9_193 (Or.inl rfl) rfl rfl rfl rfl rfl rfl (c_6 w a (by omega) (by omega) (by omega) (by omega)) ?_
            intro _ e_
            obtain rfl := e_.symm
            clear e_
            rw [← eG]
            refine ax_if_le f9_196 rfl ⟨by omega, by omega⟩ (fun q196 => absurd q196 (by omega)) (fun q196 => ?_)
            refine ax_bipush f9_199 ?_
            refine ax_iload f9_201 rfl ?_
            refine ax_imul f9_203 ?_
            refine ax_iload f9_204 rfl ?_
            refine ax_iadd f9_206 ?_
            refine ax_goto f9_207 rfl ?_
            refine ax_iastO f9_211 bX (by omega) (by omega) rfl (fun hp2 o2 r2 => ?_)
            have w := w.fr r2 (by omega)
            have a := a.fr r2 (by omega)
            have l := l.fr r2 (by omega)
            have bF := bF.fr r2 (by omega)
            have bB := bB.fr r2 (by omega)
            have bE := bE.fr r2 (by omega)
            have bK := bK.fr r2 (by omega)
            have bX := o2
            have bY := bY.fr r2 (by omega)
            have F := F.trans (r2.mono fun x e => by omega)
            refine ax_iload f9_212 rfl ?_
            refine ax_aload_n f9_214 rfl ?_
            refine ax_aload_n f9_215 rfl ?_
            refine ax_iload f9_216 rfl ?_
            refine ax_iload f9_218 rfl ?_
            refine ax_csI (rest := [_]) f9_220 (Or.inl rfl) rfl rfl rfl rfl rfl rfl (c_6 w a (by omega) (by omega) (by omega) (by omega)) ?_
            intro _ e_
            obtain rfl := e_.symm
            clear e_
            rw [← eG]
            refine ax_if_le f9_223 rfl ⟨by omega, by omega⟩ (fun q223 => absurd q223 (by omega)) (fun q223 => ?_)
            refine ax_iconst f9_226 ?_
            refine ax_goto f9_227 rfl ?_
            refine ax_iadd f9_231 ?_
            refine ax_istore (ls' := [_, _, _, _, _, _, _, _, _, _, _, _, _, _, _, _, _, _, _, _, _]) f9_232 (Nat.le_of_ble_eq_true rfl) rfl ?_
            refine ax_aload f9_234 rfl ?_
            refine ax_iload f9_236 rfl ?_
            refine ax_aload f9_238 rfl ?_
            refine ax_iload f9_240 rfl ?_
            refine ax_ialdO f9_242 (by decide) bK (by omega) (by omega) rfl ?_
            rw [z3]
            refine ax_aload_n f9_243 rfl ?_
            refine ax_aload_n f9_244 rfl ?_
            refine ax_iload f9_245 rfl ?_
            refine ax_iload f9_247 rfl ?_
            refine ax_csI (rest := [_, _, _]) f9_249 (Or.inl rfl) rfl rfl rfl rfl rfl rfl (c_6 w a (by omega) (by omega) (by omega) (by omega)) ?_
            intro _ e_
            obtain rfl := e_.symm
            clear e_
            rw [← eG]
            refine ax_icmp_le f9_252 rfl ⟨by omega, by omega⟩ ⟨by omega, by omega⟩ (fun q252 => absurd q252 (by omega)) (fun q252 => ?_)
            refine ax_bipush f9_255 ?_
            refine ax_iload f9_257 rfl ?_
            refine ax_imul f9_259 ?_
            refine ax_iload f9_260 rfl ?_
            refine ax_iadd f9_262 ?_
            refine ax_goto f9_263 rfl ?_
            refine ax_iastO f9_267 bX (by omega) (by omega) rfl (fun hp5 o5 r5 => ?_)
            have w := w.fr r5 (by omega)
            have a := a.fr r5 (by omega)
            have l := l.fr r5 (by omega)
            have bF := bF.fr r5 (by omega)
            have bB := bB.fr r5 (by omega)
            have bE := bE.fr r5 (by omega)
            have bK := bK.fr r5 (by omega)
            have bX := o5
            have bY := bY.fr r5 (by omega)
            have F := F.trans (r5.mono fun x e => by omega)
            refine ax_iload f9_268 rfl ?_
            refine ax_aload f9_270 rfl ?_
            refine ax_iload f9_272 rfl ?_
            refine ax_ialdO f9_274 (by decide) bK (by omega) (by omega) rfl ?_
            rw [z3]
            refine ax_aload_n f9_275 rfl ?_
            refine ax_aload_n f9_276 rfl ?_
            refine ax_iload f9_277 rfl ?_
            refine ax_iload f9_279 rfl ?_
            refine ax_csI (rest := [_, _]) f9_281 (Or.inl rfl) rfl rfl rfl rfl rfl rfl (c_6 w a (by omega) (by omega) (by omega) (by omega)) ?_
            intro _ e_
            obtain rfl := e_.symm
            clear e_
            rw [← eG]
            refine ax_icmp_le f9_284 rfl ⟨by omega, by omega⟩ ⟨by omega, by omega⟩ (fun q284 => absurd q284 (by omega)) (fun q284 => ?_)
            refine ax_iconst f9_287 ?_
            refine ax_goto f9_288 rfl ?_
            refine ax_iadd f9_292 ?_
            refine ax_istore (ls' := [_, _, _, _, _, _, _, _, _, _, _, _, _, _, _, _, _, _, _, _, _]) f9_293 (Nat.le_of_ble_eq_true rfl) rfl ?_
            have hc2 : chl R wy p1 = [(p1.1, M, G), (M, p1.2.1, p1.2.2 - G)] := by
              rw [hc, if_pos c1, if_pos c2]; rfl
            have K := K295 (lk + 1) Fd _ (x17 := .int (iI p1.1)) (x18 := .int (iI p1.2.1)) (x19 := .int (iI 0)) (x20 := .int (iI M)) w a l bF bB bE bK bX bY (by unfold owl; rw [if_neg (by omega)]) (fun j => by unfold owf; rw [if_neg (by omega)]; omega) (zer_app zN zc) (by rw [hc2]; exact nx_2 nx rfl rfl) F
            rw [show ((N ++ chl R wy p1).length : Int) = (N.length : Int) + 1 + 1 by rw [hc2]; simp <;> omega] at K
            exact K
          · refine ax_aload f9_183 rfl ?_
            refine ax_iload f9_185 rfl ?_
            refine ax_aload_n f9_187 rfl ?_
            refine ax_aload_n f9_188 rfl ?_
            refine ax_iload f9_189 rfl ?_
            refine ax_iload f9_191 rfl ?_
            refine ax_csI (rest := [_, _]) f9_193 (Or.inl rfl) rfl rfl rfl rfl rfl rfl (c_6 w a (by omega) (by omega) (by omega) (by omega)) ?_
            intro _ e_
            obtain rfl := e_.symm
            clear e_
            rw [← eG]
            refine ax_if_le f9_196 rfl ⟨by omega, by omega⟩ (fun q196 => absurd q196 (by omega)) (fun q196 => ?_)
            refine ax_bipush f9_199 ?_
            refine ax_iload f9_201 rfl ?_
            refine ax_imul f9_203 ?_
            refine ax_iload f9_204 rfl ?_
            refine ax_iadd f9_206 ?_
            refine ax_goto f9_207 rfl ?_
            refine ax_iastO f9_211 bX (by omega) (by omega) rfl (fun hp2 o2 r2 => ?_)
            have w := w.fr r2 (by omega)
            have a := a.fr r2 (by omega)
            have l := l.fr r2 (by omega)
            have bF := bF.fr r2 (by omega)
            have bB := bB.fr r2 (by omega)
            have bE := bE.fr r2 (by omega)
            have bK := bK.fr r2 (by omega)
            have bX := o2
            have bY := bY.fr r2 (by omega)
            have F := F.trans (r2.mono fun x e => by omega)
            refine ax_iload f9_212 rfl ?_
            refine ax_aload_n f9_214 rfl ?_
            refine ax_aload_n f9_215 rfl ?_
            refine ax_iload f9_216 rfl ?_
            refine ax_iload f9_218 rfl ?_
            refine ax_csI (rest := [_]) f9_220 (Or.inl rfl) rfl rfl rfl rfl rfl rfl (c_6 w a (by omega) (by omega) (by omega) (by omega)) ?_
            intro _ e_
            obtain rfl := e_.symm
            clear e_
            rw [← eG]
            refine ax_if_le f9_223 rfl ⟨by omega, by omega⟩ (fun q223 => absurd q223 (by omega)) (fun q223 => ?_)
            refine ax_iconst f9_226 ?_
            refine ax_goto f9_227 rfl ?_
            refine ax_iadd f9_231 ?_
            refine ax_istore (ls' := [_, _, _, _, _, _, _, _, _, _, _, _, _, _, _, _, _, _, _, _, _]) f9_232 (Nat.le_of_ble_eq_true rfl) rfl ?_
            refine ax_aload f9_234 rfl ?_
            refine ax_iload f9_236 rfl ?_
            refine ax_aload f9_238 rfl ?_
            refine ax_iload f9_240 rfl ?_
            refine ax_ialdO f9_242 (by decide) bK (by omega) (by omega) rfl ?_
            rw [z3]
            refine ax_aload_n f9_243 rfl ?_
            refine ax_aload_n f9_244 rfl ?_
            refine ax_iload f9_245 rfl ?_
            refine ax_iload f9_247 rfl ?_
            refine ax_csI (rest := [_, _, _]) f9_249 (Or.inl rfl) rfl rfl rfl rfl rfl rfl (c_6 w a (by omega) (by omega) (by omega) (by omega)) ?_
            intro _ e_
            obtain rfl := e_.symm
            clear e_
            rw [← eG]
            refine ax_icmp_le f9_252 rfl ⟨by omega, by omega⟩ ⟨by omega, by omega⟩ (fun q252 => ?_) (fun q252 => absurd q252 (by omega))
            refine ax_iconst f9_266 ?_
            refine ax_iastO f9_267 bX (by omega) (by omega) rfl (fun hp5 o5 r5 => ?_)
            have w := w.fr r5 (by omega)
            have a := a.fr r5 (by omega)
            have l := l.fr r5 (by omega)
            have bF := bF.fr r5 (by omega)
            have bB := bB.fr r5 (by omega)
            have bE := bE.fr r5 (by omega)
            have bK := bK.fr r5 (by omega)
            have bX := o5
            have bY := bY.fr r5 (by omega)
            have F := F.trans (r5.mono fun x e => by omega)
            refine ax_iload f9_268 rfl ?_
            refine ax_aload f9_270 rfl ?_
            refine ax_iload f9_272 rfl ?_
            refine ax_ialdO f9_274 (by decide) bK (by omega) (by omega) rfl ?_
            rw [z3]
            refine ax_aload_n f9_275 rfl ?_
            refine ax_aload_n f9_276 rfl ?_
            refine ax_iload f9_277 rfl ?_
            refine ax_iload f9_279 rfl ?_
            refine ax_csI (rest := [_, _]) f9_281 (Or.inl rfl) rfl rfl rfl rfl rfl rfl (c_6 w a (by omega) (by omega) (by omega) (by omega)) ?_
            intro _ e_
            obtain rfl := e_.symm
            clear e_
            rw [← eG]
            refine ax_icmp_le f9_284 rfl ⟨by omega, by omega⟩ ⟨by omega, by omega⟩ (fun q284 => ?_) (fun q284 => absurd q284 (by omega))
            refine ax_iconst f9_291 ?_
            refine ax_iadd f9_292 ?_
            refine ax_istore (ls' := [_, _, _, _, _, _, _, _, _, _, _, _, _, _, _, _, _, _, _, _, _]) f9_293 (Nat.le_of_ble_eq_true rfl) rfl ?_
            have hc2 : chl R wy p1 = [(p1.1, M, G)] := by
              rw [hc, if_pos c1, if_neg c2]; rfl
            have K := K295 (lk + 1) Fd _ (x17 := .int (iI p1.1)) (x18 := .int (iI p1.2.1)) (x19 := .int (iI 0)) (x20 := .int (iI M)) w a l bF bB bE bK bX bY (by unfold owl; rw [if_neg (by omega)]) (fun j => by unfold owf; rw [if_neg (by omega)]; omega) (zer_app zN zc) (by rw [hc2]; exact nx_1a nx rfl) F
            rw [show ((N ++ chl R wy p1).length : Int) = (N.length : Int) + 1 + 0 by rw [hc2]; simp <;> omega] at K
            exact K
        · by_cases c2 : G < p1.2.2
          · refine ax_aload f9_183 rfl ?_
            refine ax_iload f9_185 rfl ?_
            refine ax_aload_n f9_187 rfl ?_
            refine ax_aload_n f9_188 rfl ?_
            refine ax_iload f9_189 rfl ?_
            refine ax_iload f9_191 rfl ?_
            refine ax_csI (rest := [_, _]) f9_193 (Or.inl rfl) rfl rfl rfl rfl rfl rfl (c_6 w a (by omega) (by omega) (by omega) (by omega)) ?_
            intro _ e_
            obtain rfl := e_.symm
            clear e_
            rw [← eG]
            refine ax_if_le f9_196 rfl ⟨by omega, by omega⟩ (fun q196 => ?_) (fun q196 => absurd q196 (by omega))
            refine ax_iconst f9_210 ?_
            refine ax_iastO f9_211 bX (by omega) (by omega) rfl (fun hp2 o2 r2 => ?_)
            have w := w.fr r2 (by omega)
            have a := a.fr r2 (by omega)
            have l := l.fr r2 (by omega)
            have bF := bF.fr r2 (by omega)
            have bB := bB.fr r2 (by omega)
            have bE := bE.fr r2 (by omega)
            have bK := bK.fr r2 (by omega)
            have bX := o2
            have bY := bY.fr r2 (by omega)
            have F := F.trans (r2.mono fun x e => by omega)
            refine ax_iload f9_212 rfl ?_
            refine ax_aload_n f9_214 rfl ?_
            refine ax_aload_n f9_215 rfl ?_
            refine ax_iload f9_216 rfl ?_
            refine ax_iload f9_218 rfl ?_
            refine ax_csI (rest := [_]) f9_220 (Or.inl rfl) rfl rfl rfl rfl rfl rfl (c_6 w a (by omega) (by omega) (by omega) (by omega)) ?_
            intro _ e_
            obtain rfl := e_.symm
            clear e_
            rw [← eG]
            refine ax_if_le f9_223 rfl ⟨by omega, by omega⟩ (fun q223 => ?_) (fun q223 => absurd q223 (by omega))
            refine ax_iconst f9_230 ?_
            refine ax_iadd f9_231 ?_
            refine ax_istore (ls' := [_, _, _, _, _, _, _, _, _, _, _, _, _, _, _, _, _, _, _, _, _]) f9_232 (Nat.le_of_ble_eq_true rfl) rfl ?_
            refine ax_aload f9_234 rfl ?_
            refine ax_iload f9_236 rfl ?_
            refine ax_aload f9_238 rfl ?_
            refine ax_iload f9_240 rfl ?_
            refine ax_ialdO f9_242 (by decide) bK (by omega) (by omega) rfl ?_
            rw [z3]
            refine ax_aload_n f9_243 rfl ?_
            refine ax_aload_n f9_244 rfl ?_
            refine ax_iload f9_245 rfl ?_
            refine ax_iload f9_247 rfl ?_
            refine ax_csI (rest := [_, _, _]) f9_249 (Or.inl rfl) rfl rfl rfl rfl rfl rfl (c_6 w a (by omega) (by omega) (by omega) (by omega)) ?_
            intro _ e_
            obtain rfl := e_.symm
            clear e_
            rw [← eG]
            refine ax_icmp_le f9_252 rfl ⟨by omega, by omega⟩ ⟨by omega, by omega⟩ (fun q252 => absurd q252 (by omega)) (fun q252 => ?_)
            refine ax_bipush f9_255 ?_
            refine ax_iload f9_257 rfl ?_
            refine ax_imul f9_259 ?_
            refine ax_iload f9_260 rfl ?_
            refine ax_iadd f9_262 ?_
            refine ax_goto f9_263 rfl ?_
            refine ax_iastO f9_267 bX (by omega) (by omega) rfl (fun hp5 o5 r5 => ?_)
            have w := w.fr r5 (by omega)
            have a := a.fr r5 (by omega)
            have l := l.fr r5 (by omega)
            have bF := bF.fr r5 (by omega)
            have bB := bB.fr r5 (by omega)
            have bE := bE.fr r5 (by omega)
            have bK := bK.fr r5 (by omega)
            have bX := o5
            have bY := bY.fr r5 (by omega)
            have F := F.trans (r5.mono fun x e => by omega)
            refine ax_iload f9_268 rfl ?_
            refine ax_aload f9_270 rfl ?_
            refine ax_iload f9_272 rfl ?_
            refine ax_ialdO f9_274 (by decide) bK (by omega) (by omega) rfl ?_
            rw [z3]
            refine ax_aload_n f9_275 rfl ?_
            refine ax_aload_n f9_276 rfl ?_
            refine ax_iload f9_277 rfl ?_
            refine ax_iload f9_279 rfl ?_
            refine ax_csI (rest := [_, _]) f9_281 (Or.inl rfl) rfl rfl rfl rfl rfl rfl (c_6 w a (by omega) (by omega) (by omega) (by omega)) ?_
            intro _ e_
            obtain rfl := e_.symm
            clear e_
            rw [← eG]
            refine ax_icmp_le f9_284 rfl ⟨by omega, by omega⟩ ⟨by omega, by omega⟩ (fun q284 => absurd q284 (by omega)) (fun q284 => ?_)
            refine ax_iconst f9_287 ?_
            refine ax_goto f9_288 rfl ?_
            refine ax_iadd f9_292 ?_
            refine ax_istore (ls' := [_, _, _, _, _, _, _, _, _, _, _, _, _, _, _, _, _, _, _, _, _]) f9_293 (Nat.le_of_ble_eq_true rfl) rfl ?_
            have hc2 : chl R wy p1 = [(M, p1.2.1, p1.2.2 - G)] := by
              rw [hc, if_neg c1, if_pos c2]; rfl
            have K := K295 (lk + 1) Fd _ (x17 := .int (iI p1.1)) (x18 := .int (iI p1.2.1)) (x19 := .int (iI 0)) (x20 := .int (iI M)) w a l bF bB bE bK bX bY (by unfold owl; rw [if_neg (by omega)]) (fun j => by unfold owf; rw [if_neg (by omega)]; omega) (zer_app zN zc) (by rw [hc2]; exact nx_1b nx rfl) F
            rw [show ((N ++ chl R wy p1).length : Int) = (N.length : Int) + 0 + 1 by rw [hc2]; simp <;> omega] at K
            exact K
          · refine ax_aload f9_183 rfl ?_
            refine ax_iload f9_185 rfl ?_
            refine ax_aload_n f9_187 rfl ?_
            refine ax_aload_n f9_188 rfl ?_
            refine ax_iload f9_189 rfl ?_
            refine ax_iload f9_191 rfl ?_
            refine ax_csI (rest := [_, _]) f9_193 (Or.inl rfl) rfl rfl rfl rfl rfl rfl (c_6 w a (by omega) (by omega) (by omega) (by omega)) ?_
            intro _ e_
            obtain rfl := e_.symm
            clear e_
            rw [← eG]
            refine ax_if_le f9_196 rfl ⟨by omega, by omega⟩ (fun q196 => ?_) (fun q196 => absurd q196 (by omega))
            refine ax_iconst f9_210 ?_
            refine ax_iastO f9_211 bX (by omega) (by omega) rfl (fun hp2 o2 r2 => ?_)
            have w := w.fr r2 (by omega)
            have a := a.fr r2 (by omega)
            have l := l.fr r2 (by omega)
            have bF := bF.fr r2 (by omega)
            have bB := bB.fr r2 (by omega)
            have bE := bE.fr r2 (by omega)
            have bK := bK.fr r2 (by omega)
            have bX := o2
            have bY := bY.fr r2 (by omega)
            have F := F.trans (r2.mono fun x e => by omega)
            refine ax_iload f9_212 rfl ?_
            refine ax_aload_n f9_214 rfl ?_
            refine ax_aload_n f9_215 rfl ?_
            refine ax_iload f9_216 rfl ?_
            refine ax_iload f9_218 rfl ?_
            refine ax_csI (rest := [_]) f9_220 (Or.inl rfl) rfl rfl rfl rfl rfl rfl (c_6 w a (by omega) (by omega) (by omega) (by omega)) ?_
            intro _ e_
            obtain rfl := e_.symm
            clear e_
            rw [← eG]
            refine ax_if_le f9_223 rfl ⟨by omega, by omega⟩ (fun q223 => ?_) (fun q223 => absurd q223 (by omega))
            refine ax_iconst f9_230 ?_
            refine ax_iadd f9_231 ?_
            refine ax_istore (ls' := [_, _, _, _, _, _, _, _, _, _, _, _, _, _, _, _, _, _, _, _, _]) f9_232 (Nat.le_of_ble_eq_true rfl) rfl ?_
            refine ax_aload f9_234 rfl ?_
            refine ax_iload f9_236 rfl ?_
            refine ax_aload f9_238 rfl ?_
            refine ax_iload f9_240 rfl ?_
            refine ax_ialdO f9_242 (by decide) bK (by omega) (by omega) rfl ?_
            rw [z3]
            refine ax_aload_n f9_243 rfl ?_
            refine ax_aload_n f9_244 rfl ?_
            refine ax_iload f9_245 rfl ?_
            refine ax_iload f9_247 rfl ?_
            refine ax_csI (rest := [_, _, _]) f9_249 (Or.inl rfl) rfl rfl rfl rfl rfl rfl (c_6 w a (by omega) (by omega) (by omega) (by omega)) ?_
            intro _ e_
            obtain rfl := e_.symm
            clear e_
            rw [← eG]
            refine ax_icmp_le f9_252 rfl ⟨by omega, by omega⟩ ⟨by omega, by omega⟩ (fun q252 => ?_) (fun q252 => absurd q252 (by omega))
            refine ax_iconst f9_266 ?_
            refine ax_iastO f9_267 bX (by omega) (by omega) rfl (fun hp5 o5 r5 => ?_)
            have w := w.fr r5 (by omega)
            have a := a.fr r5 (by omega)
            have l := l.fr r5 (by omega)
            have bF := bF.fr r5 (by omega)
            have bB := bB.fr r5 (by omega)
            have bE := bE.fr r5 (by omega)
            have bK := bK.fr r5 (by omega)
            have bX := o5
            have bY := bY.fr r5 (by omega)
            have F := F.trans (r5.mono fun x e => by omega)
            refine ax_iload f9_268 rfl ?_
            refine ax_aload f9_270 rfl ?_
            refine ax_iload f9_272 rfl ?_
            refine ax_ialdO f9_274 (by decide) bK (by omega) (by omega) rfl ?_
            rw [z3]
            refine ax_aload_n f9_275 rfl ?_
            refine ax_aload_n f9_276 rfl ?_
            refine ax_iload f9_277 rfl ?_
            refine ax_iload f9_279 rfl ?_
            refine ax_csI (rest := [_, _]) f9_281 (Or.inl rfl) rfl rfl rfl rfl rfl rfl (c_6 w a (by omega) (by omega) (by omega) (by omega)) ?_
            intro _ e_
            obtain rfl := e_.symm
            clear e_
            rw [← eG]
            refine ax_icmp_le f9_284 rfl ⟨by omega, by omega⟩ ⟨by omega, by omega⟩ (fun q284 => ?_) (fun q284 => absurd q284 (by omega))
            refine ax_iconst f9_291 ?_
            refine ax_iadd f9_292 ?_
            refine ax_istore (ls' := [_, _, _, _, _, _, _, _, _, _, _, _, _, _, _, _, _, _, _, _, _]) f9_293 (Nat.le_of_ble_eq_true rfl) rfl ?_
            have hc2 : chl R wy p1 = [] := by
              rw [hc, if_neg c1, if_neg c2]; rfl
            have K := K295 (lk + 1) Fd _ (x17 := .int (iI p1.1)) (x18 := .int (iI p1.2.1)) (x19 := .int (iI 0)) (x20 := .int (iI M)) w a l bF bB bE bK bX bY (by unfold owl; rw [if_neg (by omega)]) (fun j => by unfold owf; rw [if_neg (by omega)]; omega) (zer_app zN zc) (by rw [hc2]; exact nx_0 nx) F
            rw [show ((N ++ chl R wy p1).length : Int) = (N.length : Int) + 0 + 0 by rw [hc2]; simp <;> omega] at K
            exact K
    · refine ax_iconst f9_80 ?_
      refine ax_goto f9_81 rfl ?_
      refine ax_istore (ls' := [_, _, _, _, _, _, _, _, _, _, _, _, _, _, _, _, _, _, _, _, _]) f9_85 (Nat.le_of_ble_eq_true rfl) rfl ?_
      refine ax_iload f9_87 rfl ?_
      refine ax_iload f9_89 rfl ?_
      refine ax_if_eq f9_91 rfl ⟨by omega, by omega⟩ (fun q91 => absurd q91 (by omega)) (fun q91 => ?_)
      refine ax_iconst f9_94 ?_
      refine ax_goto f9_95 rfl ?_
      refine ax_iadd f9_99 ?_
      refine ax_istore (ls' := [_, _, _, _, _, _, _, _, _, _, _, _, _, _, _, _, _, _, _, _, _]) f9_100 (Nat.le_of_ble_eq_true rfl) rfl ?_
      refine ax_iload f9_102 rfl ?_
      refine ax_istore (ls' := [_, _, _, _, _, _, _, _, _, _, _, _, _, _, _, _, _, _, _, _, _]) f9_104 (Nat.le_of_ble_eq_true rfl) rfl ?_
      refine lp_9a (by omega) (p1.2.1 - p1.1).toNat p1.1 bF (by omega) (by omega) (by omega) (fun h1 c1 c2 => ?_)
      have w := w.fr c2 (by omega)
      have a := a.fr c2 (by omega)
      have l := l.fr c2 (by omega)
      have bF := c1
      have bB := bB.fr c2 (by omega)
      have bE := bE.fr c2 (by omega)
      have bK := bK.fr c2 (by omega)
      have bX := bX.fr c2 (by omega)
      have bY := bY.fr c2 (by omega)
      have hc : chl R wy p1 = [] := if_pos (Or.inl (by omega))
      have F : fr (fun q => q = qf ∨ q = p + 3) h h1 := c2.mono fun x e => by omega
      refine ax_iload f9_156 rfl ?_
      refine ax_if_ne f9_158 rfl ⟨by omega, by omega⟩ (fun q158 => ?_) (fun q158 => absurd q158 (by omega))
      have zN2 : zer (fun j => if p1.1 ≤ j ∧ j < p1.2.1 then 1 else Fd j) N := fun q hq j j1 j2 => by
        have s := srt_in sN hq
        show (if _ then _ else _) = _
        rw [if_neg (by omega)]; exact zN q hq j j1 j2
      have K := K295 (lk + 0) _ X (x17 := .int (iI p1.1)) (x18 := .int (iI p1.2.1)) (x19 := .int (iI 1)) (x20 := .int (iI p1.2.1)) w a l bF bB bE bK bX bY (by unfold owl; rw [if_pos (by omega)]) (fun j => by
        unfold owf
        by_cases c : p1.1 ≤ j ∧ j < p1.2.1
        · rw [if_pos c, if_pos ⟨c, Or.inl (by omega)⟩, zp j c.1 c.2]; rfl
        · rw [if_neg c, if_neg (fun z => c z.1)]; omega) (by rw [hc, List.append_nil]; exact zN2) (by rw [hc, List.append_nil]; exact nx) F
      rw [show (N ++ chl R wy p1).length = N.length by rw [hc, List.append_nil]] at K
      exact K
theorem lp_9c {d p qf : Nat} (hp : 127 ≤ p) (hq : 125 ≤ qf ∧ ¬ qf = 126 ∧ qf < p) {R : Int → Int} (i : inv R) {s e fm to la wy : Int} (hw : wy = 0 ∨ wy = 1 ∨ wy = 2) (hs : 0 ≤ s) (he : e ≤ 48) : ∀ (n : Nat) (L : List Pt) (lk : Int) {h : am_H} {Fd B E K X Y : Int → Int} {x15 x16 x17 x18 x19 x20 : Value} (w : oI h 120 48 R) (a : oI h 121 48 (fun j => R (48 + j))) (l : oI h 122 48 (fun j => R (96 + j))) (bF : oI h qf 48 Fd) (bB : oI h p 48 B) (bE : oI h (p + 1) 48 E) (bK : oI h (p + 2) 48 K) (bX : oI h (p + 3) 64 X) (bY : oI h (p + 4) 48 Y) (sL2 : srt s e L) (wL : wid n L) (al : arl B E K 0 L) (zL : zer Fd L),
    am_X (d + 2) 9 32 [.ref 120, .ref 121, .ref 122, .int (iI fm), .int (iI to), .int (iI la), .int (iI wy), .ref qf, .ref p, .ref (p + 1), .ref (p + 2), .ref (p + 3), .ref (p + 4), .int (iI lk), .int (iI L.length), x15, x16, x17, x18, x19, x20] [] h (fun r h' => rI r (lk + sL R wy L) ∧ (∃ B' E' K' X' Y' : Int → Int, oI h' p 48 B' ∧ oI h' (p + 1) 48 E' ∧ oI h' (p + 2) 48 K' ∧ oI h' (p + 3) 64 X' ∧ oI h' (p + 4) 48 Y') ∧ oI h' qf 48 (fun j => Fd j + sF R wy j L) ∧ fr (fun q => q = qf ∨ (p ≤ q ∧ q ≤ p + 4)) h h')
  | n, [], lk, h, Fd, B, E, K, X, Y, x15, x16, x17, x18, x19, x20, w, a, l, bF, bB, bE, bK, bX, bY, sL2, wL, al, zL => by
    have hln : (([] : List Pt).length : Int) = 0 := rfl
    refine ax_iload f9_32 rfl ?_
    refine ax_if_le f9_34 rfl ⟨by omega, by omega⟩ (fun q34 => ?_) (fun q34 => absurd q34 (by omega))
    refine ax_iload f9_325 rfl ?_
    refine ax_ireturn f9_327 rfl rfl ?_
    refine ⟨rI_of (Int.add_zero lk).symm, ⟨B, E, K, X, Y, bB, bE, bK, bX, bY⟩, bF.eq (fun j _ _ => Int.add_zero _), fr_rf⟩
  | 0, p1 :: r, lk, h, Fd, B, E, K, X, Y, x15, x16, x17, x18, x19, x20, w, a, l, bF, bB, bE, bK, bX, bY, sL2, wL, al, zL => absurd (wid_0 sL2 wL) (List.cons_ne_nil _ _)
  | n + 1, p1 :: r, lk, h, Fd, B, E, K, X, Y, x15, x16, x17, x18, x19, x20, w, a, l, bF, bB, bE, bK, bX, bY, sL2, wL, al, zL => by
    have hll := srt_le sL2
    have hl1 : ((p1 :: r).length : Int) = r.length + 1 := by rw [List.length_cons]; rfl
    refine ax_iload f9_32 rfl ?_
    refine ax_if_le f9_34 rfl ⟨by omega, by omega⟩ (fun q34 => absurd q34 (by omega)) (fun q34 => ?_)
    refine ax_iconst f9_37 ?_
    refine ax_istore (ls' := [_, _, _, _, _, _, _, _, _, _, _, _, _, _, _, _, _, _, _, _, _]) f9_38 (Nat.le_of_ble_eq_true rfl) rfl ?_
    refine ax_iconst f9_40 ?_
    refine ax_istore (ls' := [_, _, _, _, _, _, _, _, _, _, _, _, _, _, _, _, _, _, _, _, _]) f9_41 (Nat.le_of_ble_eq_true rfl) rfl ?_
    refine lp_9b (d := d) (N := []) hp hq i hw hs he (p1 :: r) 0 lk s w a l bF bB bE bK bX bY (Int.le_refl s) sL2 al ⟨by rw [Int.zero_add], by omega, by omega⟩ trivial (fun q hq => absurd hq List.not_mem_nil) zL (fun h1 lk1 F1 X1 x17 x18 x19 x20 c1 c2 c3 c4 c5 c6 c7 => ?_)
    have w := w.fr c7 (by omega)
    have a := a.fr c7 (by omega)
    have l := l.fr c7 (by omega)
    have bF := c1
    have bB := bB.fr c7 (by omega)
    have bE := bE.fr c7 (by omega)
    have bK := bK.fr c7 (by omega)
    have bX := c2
    have bY := bY.fr c7 (by omega)
    have sN := srt_nxl (w := wy) i sL2 hs he
    refine ax_aload_n f9_301 rfl ?_
    refine ax_aload_n f9_302 rfl ?_
    refine ax_aload f9_303 rfl ?_
    refine ax_aload f9_305 rfl ?_
    refine ax_aload f9_307 rfl ?_
    refine ax_aload f9_309 rfl ?_
    refine ax_aload f9_311 rfl ?_
    refine ax_iload f9_313 rfl ?_
    refine ax_iload f9_315 rfl ?_
    refine ax_csI (rest := []) f9_317 (Or.inl rfl) rfl rfl rfl rfl rfl rfl (c_10 hp i w a bB bE bK bX bY hs he sL2 sN al c3 (fun q hq => mvl_nxl sL2 hq)) ?_
    rintro h2 ⟨⟨B2, E2, K2, Y2, y1, y2, y3, y4, y5, y6⟩, y7⟩
    have w := w.fr y7 (by omega)
    have a := a.fr y7 (by omega)
    have l := l.fr y7 (by omega)
    have bF := bF.fr y7 (by omega)
    refine ax_istore (ls' := [_, _, _, _, _, _, _, _, _, _, _, _, _, _, _, _, _, _, _, _, _]) f9_320 (Nat.le_of_ble_eq_true rfl) rfl ?_
    refine ax_goto f9_322 rfl ?_
    have ih := lp_9c (d := d) (fm := fm) (to := to) (la := la) (x15 := .int (iI (nxl R wy (p1 :: r)).length)) (x16 := .int (iI (p1 :: r).length)) (x17 := x17) (x18 := x18) (x19 := x19) (x20 := x20) hp hq i hw hs he n (nxl R wy (p1 :: r)) lk1 w a l bF y2 y3 y4 y5 y6 sN (wid_nxl sL2 wL) y1 c6
    refine am_X_mono ih (Nat.le_refl _) (fun r' h' z => ⟨?_, z.2.1, ?_, ?_⟩)
    · rw [← c4]; exact z.1
    · exact z.2.2.1.eq (fun j _ _ => (c5 j).symm)
    · exact ((c7.mono fun x e => by omega).trans (y7.mono fun x e => by omega)).trans z.2.2.2
theorem c_9 {h : am_H} {p qf : Nat} (hp : 127 ≤ p) (hq : 125 ≤ qf ∧ ¬ qf = 126 ∧ qf < p) {R : Int → Int} (i : inv R) {fm to la wy : Int} {Fd B E K X Y : Int → Int} (hw : wy = 0 ∨ wy = 1 ∨ wy = 2) (w : oI h 120 48 R) (a : oI h 121 48 (fun j => R (48 + j))) (l : oI h 122 48 (fun j => R (96 + j))) (bF : oI h qf 48 Fd) (bB : oI h p 48 B) (bE : oI h (p + 1) 48 E) (bK : oI h (p + 2) 48 K) (bX : oI h (p + 3) 64 X) (bY : oI h (p + 4) 48 Y) (h1 : 0 ≤ fm) (h2 : fm < to) (h3 : to ≤ 48) (h4 : la ≤ 10000) (h5 : -10000 ≤ la) (hz : ∀ j, fm ≤ j → j < to → Fd j = 0) : am_X 2 9 0 (am_ent 9 [.ref 120, .ref 121, .ref 122, .int (iI fm), .int (iI to), .int (iI la), .int (iI wy), .ref qf, .ref p, .ref (p + 1), .ref (p + 2), .ref (p + 3), .ref (p + 4)]) [] h (fun r h' => rI r (if 0 < la then SL R wy fm to la else 0) ∧ (∃ B' E' K' X' Y' : Int → Int, oI h' p 48 B' ∧ oI h' (p + 1) 48 E' ∧ oI h' (p + 2) 48 K' ∧ oI h' (p + 3) 64 X' ∧ oI h' (p + 4) 48 Y') ∧ oI h' qf 48 (fun j => Fd j + (if 0 < la then SF R wy fm to la j else 0)) ∧ fr (fun q => q = qf ∨ (p ≤ q ∧ q ≤ p + 4)) h h') := by
  show am_X 2 9 0 [.ref 120, .ref 121, .ref 122, .int (iI fm), .int (iI to), .int (iI la), .int (iI wy), .ref qf, .ref p, .ref (p + 1), .ref (p + 2), .ref (p + 3), .ref (p + 4), am_u, am_u, am_u, am_u, am_u, am_u, am_u, am_u] [] h _
  have F : fr (fun q => q = qf ∨ (p ≤ q ∧ q ≤ p + 4)) h h := fr_rf
  refine ax_iconst f9_0 ?_
  refine ax_istore (ls' := [_, _, _, _, _, _, _, _, _, _, _, _, _, _, _, _, _, _, _, _, _]) f9_1 (Nat.le_of_ble_eq_true rfl) rfl ?_
  refine ax_iload f9_3 rfl ?_
  refine ax_if_le f9_5 rfl ⟨by omega, by omega⟩ (fun q5 => ?_) (fun q5 => ?_)
  · refine ax_iconst f9_12 ?_
    refine ax_istore (ls' := [_, _, _, _, _, _, _, _, _, _, _, _, _, _, _, _, _, _, _, _, _]) f9_13 (Nat.le_of_ble_eq_true rfl) rfl ?_
    refine ax_aload f9_15 rfl ?_
    refine ax_iconst f9_17 ?_
    refine ax_iload_n f9_18 rfl ?_
    refine ax_iastO f9_19 bB (by omega) (by omega) rfl (fun hp1 o1 r1 => ?_)
    have w := w.fr r1 (by omega)
    have a := a.fr r1 (by omega)
    have l := l.fr r1 (by omega)
    have bF := bF.fr r1 (by omega)
    have bB := o1
    have bE := bE.fr r1 (by omega)
    have bK := bK.fr r1 (by omega)
    have bX := bX.fr r1 (by omega)
    have bY := bY.fr r1 (by omega)
    have F := F.trans (r1.mono fun x e => by omega)
    refine ax_aload f9_20 rfl ?_
    refine ax_iconst f9_22 ?_
    refine ax_iload f9_23 rfl ?_
    refine ax_iastO f9_25 bE (by omega) (by omega) rfl (fun hp2 o2 r2 => ?_)
    have w := w.fr r2 (by omega)
    have a := a.fr r2 (by omega)
    have l := l.fr r2 (by omega)
    have bF := bF.fr r2 (by omega)
    have bB := bB.fr r2 (by omega)
    have bE := o2
    have bK := bK.fr r2 (by omega)
    have bX := bX.fr r2 (by omega)
    have bY := bY.fr r2 (by omega)
    have F := F.trans (r2.mono fun x e => by omega)
    refine ax_aload f9_26 rfl ?_
    refine ax_iconst f9_28 ?_
    refine ax_iload f9_29 rfl ?_
    refine ax_iastO f9_31 bK (by omega) (by omega) rfl (fun hp3 o3 r3 => ?_)
    have w := w.fr r3 (by omega)
    have a := a.fr r3 (by omega)
    have l := l.fr r3 (by omega)
    have bF := bF.fr r3 (by omega)
    have bB := bB.fr r3 (by omega)
    have bE := bE.fr r3 (by omega)
    have bK := o3
    have bX := bX.fr r3 (by omega)
    have bY := bY.fr r3 (by omega)
    have F := F.trans (r3.mono fun x e => by omega)
    have ih := lp_9c (d := 0) (fm := fm) (to := to) (la := la) (s := fm) (e := to) (x15 := am_u) (x16 := am_u) (x17 := am_u) (x18 := am_u) (x19 := am_u) (x20 := am_u) hp hq i hw h1 h3 48 [] 0 w a l bF bB bE bK bX bY (Int.le_of_lt h2) (fun q hq => absurd hq List.not_mem_nil) trivial (fun q hq => absurd hq List.not_mem_nil)
    refine am_X_mono ih (Nat.le_refl _) (fun r' h' z => ⟨?_, z.2.1, ?_, F.trans z.2.2.2⟩)
    · rw [if_neg (by omega)]; exact z.1
    · exact z.2.2.1.eq (fun j _ _ => by rw [if_neg (by omega)]; rfl)
  · refine ax_iconst f9_8 ?_
    refine ax_goto f9_9 rfl ?_
    refine ax_istore (ls' := [_, _, _, _, _, _, _, _, _, _, _, _, _, _, _, _, _, _, _, _, _]) f9_13 (Nat.le_of_ble_eq_true rfl) rfl ?_
    refine ax_aload f9_15 rfl ?_
    refine ax_iconst f9_17 ?_
    refine ax_iload_n f9_18 rfl ?_
    refine ax_iastO f9_19 bB (by omega) (by omega) rfl (fun hp1 o1 r1 => ?_)
    have w := w.fr r1 (by omega)
    have a := a.fr r1 (by omega)
    have l := l.fr r1 (by omega)
    have bF := bF.fr r1 (by omega)
    have bB := o1
    have bE := bE.fr r1 (by omega)
    have bK := bK.fr r1 (by omega)
    have bX := bX.fr r1 (by omega)
    have bY := bY.fr r1 (by omega)
    have F := F.trans (r1.mono fun x e => by omega)
    refine ax_aload f9_20 rfl ?_
    refine ax_iconst f9_22 ?_
    refine ax_iload f9_23 rfl ?_
    refine ax_iastO f9_25 bE (by omega) (by omega) rfl (fun hp2 o2 r2 => ?_)
    have w := w.fr r2 (by omega)
    have a := a.fr r2 (by omega)
    have l := l.fr r2 (by omega)
    have bF := bF.fr r2 (by omega)
    have bB := bB.fr r2 (by omega)
    have bE := o2
    have bK := bK.fr r2 (by omega)
    have bX := bX.fr r2 (by omega)
    have bY := bY.fr r2 (by omega)
    have F := F.trans (r2.mono fun x e => by omega)
    refine ax_aload f9_26 rfl ?_
    refine ax_iconst f9_28 ?_
    refine ax_iload f9_29 rfl ?_
    refine ax_iastO f9_31 bK (by omega) (by omega) rfl (fun hp3 o3 r3 => ?_)
    have w := w.fr r3 (by omega)
    have a := a.fr r3 (by omega)
    have l := l.fr r3 (by omega)
    have bF := bF.fr r3 (by omega)
    have bB := bB.fr r3 (by omega)
    have bE := bE.fr r3 (by omega)
    have bK := o3
    have bX := bX.fr r3 (by omega)
    have bY := bY.fr r3 (by omega)
    have F := F.trans (r3.mono fun x e => by omega)
    have ih := lp_9c (d := 0) (fm := fm) (to := to) (la := la) (s := fm) (e := to) (x15 := am_u) (x16 := am_u) (x17 := am_u) (x18 := am_u) (x19 := am_u) (x20 := am_u) hp hq i hw h1 h3 48 [(fm, to, la)] 0 w a l bF bB bE bK bX bY ⟨Int.le_refl _, h2, (show 0 < la by omega), h4, Int.le_refl _⟩ (fun q hq => by
      rw [List.mem_singleton.mp hq]
      show to - fm ≤ 48
      omega) ⟨uZ_s, uZ_s, uZ_s, trivial⟩ (fun q hq j j1 j2 => by
      rw [List.mem_singleton.mp hq] at j1 j2
      exact hz j j1 j2)
    refine am_X_mono ih (Nat.le_refl _) (fun r' h' z => ⟨?_, z.2.1, ?_, F.trans z.2.2.2⟩)
    · rw [if_pos (by omega)]
      have z1 := z.1
      rw [Int.zero_add] at z1
      have e : sL R wy [(fm, to, la)] = SL R wy fm to la := Int.add_zero _
      rw [e] at z1; exact z1
    · exact z.2.2.1.eq (fun j _ _ => by rw [if_pos (by omega)]; exact congrArg (Fd j + ·) (Int.add_zero _).symm)
end SED
