/-! ===== the least cost of trees: the law's own, and against one tree ===== -/
section LEA
theorem sm_add {f g : Int → Int} : ∀ {n : Nat} {a : Int}, sm (fun j => f j + g j) a n = sm f a n + sm g a n
  | 0, _ => rfl
  | n + 1, a => by
    rw [sm_1, sm_1, sm_1, sm_add (n := n)]
    omega
theorem mnf_le {g : Int → Int} : ∀ (n : Nat) (acc m : Int), mnf g acc m n ≤ acc ∧ ∀ j, m ≤ j → j < m + n → mnf g acc m n ≤ g j
  | 0, acc, m => ⟨Int.le_refl _, fun j j1 j2 => by omega⟩
  | n + 1, acc, m => by
    have ih := mnf_le (g := g) n (min acc (g m)) (m + 1)
    have e : mnf g acc m (n + 1) = mnf g (min acc (g m)) (m + 1) n := rfl
    rw [e]
    refine ⟨by omega, fun j j1 j2 => ?_⟩
    by_cases c : j = m
    · rw [c]; omega
    · exact ih.2 j (by omega) (by omega)
theorem lc_le {V : Int → Int} {f : Nat} {a b m : Int} (h1 : a < m) (h2 : m < b) : lc V (f + 1) a b ≤ lc V f a m + lc V f m b + sm V a (b - a).toNat := by
  have k := mnf_le (g := fun m => lc V f a m + lc V f m b) (b - a - 2).toNat (lc V f (a + 1) b) (a + 2)
  have e : lc V (f + 1) a b = mnf (fun m => lc V f a m + lc V f m b) (lc V f (a + 1) b) (a + 2) (b - a - 2).toNat + sm V a (b - a).toNat := by
    show (if b - a ≤ 1 then 0 else _) = _
    rw [if_neg (by omega)]
  rw [e]
  by_cases c : m = a + 1
  · have z : lc V f a m = 0 := lc_1 (by omega)
    rw [z, c]
    have := k.1
    omega
  · have := k.2 m (by omega) (by omega)
    have this : mnf (fun m => lc V f a m + lc V f m b) (lc V f (a + 1) b) (a + 2) (b - a - 2).toNat ≤ lc V f a m + lc V f m b := this
    omega
/-- the cost of the tree that V halves -/
def hst (V W : Int → Int) (f : Nat) (a b : Int) : Int := sm (fun r => hvn V r f a b * W r) a (b - a).toNat
theorem hst_le {V W : Int → Int} (hW : ∀ j, 0 ≤ W j) : ∀ (f : Nat) (a b : Int), a < b → b - a ≤ f → lc W f a b ≤ hst V W f a b
  | 0, a, b, h1, h2 => by omega
  | f + 1, a, b, h1, h2 => by
    by_cases c : b - a ≤ 1
    · rw [lc_1 c]
      have := sm_ge (f := fun r => hvn V r (f + 1) a b * W r) (c := 0) (n := (b - a).toNat) (a := a) (fun j _ _ => Int.mul_nonneg (hvn_in V j (f + 1) a b).1 (hW j))
      unfold hst
      omega
    · obtain ⟨m, em⟩ : ∃ m, m = hlf V a b := ⟨_, rfl⟩
      have hm := hlf_in V (a := a) (b := b) (by omega)
      rw [← em] at hm
      have i1 := hst_le (V := V) hW f a m hm.1 (by omega)
      have i2 := hst_le (V := V) hW f m b hm.2 (by omega)
      have k := lc_le (V := W) (f := f) hm.1 hm.2
      have e1 : sm (fun r => hvn V r (f + 1) a b * W r) a (m - a).toNat = sm W a (m - a).toNat + hst V W f a m := by
        unfold hst
        rw [← sm_add]
        refine sm_cong fun j j1 j2 => ?_
        have e : hvn V j (f + 1) a b = 1 + hvn V j f a m := by
          show (if b - a < 2 then 0 else 1 + (if j < hlf V a b then _ else _)) = _
          rw [if_neg (by omega), ← em, if_pos (by omega)]
        rw [e, Int.add_mul, Int.one_mul]
      have e2 : sm (fun r => hvn V r (f + 1) a b * W r) m (b - m).toNat = sm W m (b - m).toNat + hst V W f m b := by
        unfold hst
        rw [← sm_add]
        refine sm_cong fun j j1 j2 => ?_
        have e : hvn V j (f + 1) a b = 1 + hvn V j f m b := by
          show (if b - a < 2 then 0 else 1 + (if j < hlf V a b then _ else _)) = _
          rw [if_neg (by omega), ← em, if_neg (by omega)]
        rw [e, Int.add_mul, Int.one_mul]
      have cat : ∀ g : Int → Int, sm g a (b - a).toNat = sm g a (m - a).toNat + sm g m (b - m).toNat := fun g => by
        rw [show (b - a).toNat = (m - a).toNat + (b - m).toNat by omega, sm_cat, show a + ((m - a).toNat : Int) = m by omega]
      have e3 : hst V W (f + 1) a b = sm (fun r => hvn V r (f + 1) a b * W r) a (m - a).toNat + sm (fun r => hvn V r (f + 1) a b * W r) m (b - m).toNat := cat _
      rw [e3, e1, e2]
      have := cat W
      omega
theorem lkf_2 {V R : Int → Int} {a b : Int} : ∀ (n : Nat) (mo al r : Int), (lkf V R a b mo al r n).2 = al + sm (fun j => own V a b j * (R (96 + j) + 1)) r n
  | 0, mo, al, r => (Int.add_zero al).symm
  | n + 1, mo, al, r => by
    show (lkf V R a b (if mo < own V a b r then own V a b r else mo) (al + own V a b r * (R (96 + r) + 1)) (r + 1) n).2 = _
    rw [lkf_2 n, sm_1]
    omega
theorem lkf_1 {V R : Int → Int} {a b : Int} : ∀ (n : Nat) (mo al r : Int), 0 ≤ mo ∧ mo ≤ 48 → 0 ≤ (lkf V R a b mo al r n).1 ∧ (lkf V R a b mo al r n).1 ≤ 48
  | 0, mo, al, r, h => h
  | n + 1, mo, al, r, h => by
    show 0 ≤ (lkf V R a b (if mo < own V a b r then own V a b r else mo) (al + own V a b r * (R (96 + r) + 1)) (r + 1) n).1 ∧ (lkf V R a b (if mo < own V a b r then own V a b r else mo) (al + own V a b r * (R (96 + r) + 1)) (r + 1) n).1 ≤ 48
    have := hvn_in V r 48 a b
    exact lkf_1 n _ _ _ (by unfold own; split <;> omega)
theorem vl_2 {R : Int → Int} {r : Int} : vl R 2 r = R (96 + r) + 1 := by
  unfold vl
  rw [if_neg (by omega), if_pos rfl]
theorem lc_lkb {R : Int → Int} (i : inv R) {k w : Int} (h1 : 0 ≤ k) (h2 : k < blk R) : lc (vl R 2) 48 (fro R k) (fro R (k + 1)) ≤ (lkb R w k).2 := by
  obtain ⟨b1, b2, b3⟩ := fro_lt i.ff h1 h2
  have b4 := (fro_sp i.ff k).1
  have b5 := (fro_sp i.ff (k + 1)).2.1
  -- outside the rows the weights don't matter
  have e : ∀ (f : Nat) (a b : Int), 0 ≤ a → b ≤ 48 → lc (vl R 2) f a b = lc (fun j => if 0 ≤ j ∧ j < 48 then vl R 2 j else 0) f a b := by
    intro f
    induction f with
    | zero => intro a b _ _; rfl
    | succ f ih =>
      intro a b ha hb
      show (if b - a ≤ 1 then 0 else _) = (if b - a ≤ 1 then 0 else _)
      by_cases c : b - a ≤ 1
      · rw [if_pos c, if_pos c]
      · rw [if_neg c, if_neg c, ih (a + 1) b (by omega) hb]
        rw [mnf_cong _ _ _ (g' := fun m => lc (fun j => if 0 ≤ j ∧ j < 48 then vl R 2 j else 0) f a m + lc (fun j => if 0 ≤ j ∧ j < 48 then vl R 2 j else 0) f m b) (fun j j1 j2 => by rw [ih a j ha (by omega), ih j b (by omega) hb])]
        rw [sm_cong (f := vl R 2) (g := fun j => if 0 ≤ j ∧ j < 48 then vl R 2 j else 0) (fun j j1 j2 => by rw [if_pos (by omega)])]
  rw [e 48 _ _ b4 b5]
  refine Int.le_trans (hst_le (V := vl R w) (fun j => ?_) 48 _ _ b3 (by omega)) ?_
  · show 0 ≤ (if 0 ≤ j ∧ j < 48 then vl R 2 j else 0)
    split
    · rename_i z
      have := i.lo z.1 z.2
      rw [vl_2]; omega
    · exact Int.le_refl 0
  · have k1 : (lkb R w k).2 = 0 + sm (fun j => own (vl R w) (fro R k) (fro R (k + 1)) j * (R (96 + j) + 1)) (fro R k) (fro R (k + 1) - fro R k).toNat := lkf_2 _ _ _ _
    rw [k1, Int.zero_add]
    unfold hst
    refine Int.le_of_eq (sm_cong fun j j1 j2 => ?_)
    show hvn (vl R w) j 48 (fro R k) (fro R (k + 1)) * (if 0 ≤ j ∧ j < 48 then vl R 2 j else 0) = _
    rw [if_pos (by omega), vl_2]
    rfl
theorem lkb_in {R : Int → Int} (i : inv R) {k w : Int} (h1 : 0 ≤ k) (h2 : k < blk R) : (0 ≤ (lkb R w k).1 ∧ (lkb R w k).1 ≤ 48) ∧ 0 ≤ (lkb R w k).2 ∧ (lkb R w k).2 ≤ 240000 := by
  obtain ⟨b1, b2, b3⟩ := fro_lt i.ff h1 h2
  have b4 := (fro_sp i.ff k).1
  have b5 := (fro_sp i.ff (k + 1)).2.1
  refine ⟨lkf_1 _ _ _ _ (by omega), ?_⟩
  have k1 : (lkb R w k).2 = 0 + sm (fun j => own (vl R w) (fro R k) (fro R (k + 1)) j * (R (96 + j) + 1)) (fro R k) (fro R (k + 1) - fro R k).toNat := lkf_2 _ _ _ _
  have hb : ∀ j, fro R k ≤ j → j < fro R k + ((fro R (k + 1) - fro R k).toNat : Nat) → 0 ≤ own (vl R w) (fro R k) (fro R (k + 1)) j * (R (96 + j) + 1) ∧ own (vl R w) (fro R k) (fro R (k + 1)) j * (R (96 + j) + 1) ≤ 4800 := fun j j1 j2 => by
    have o1 := hvn_in (vl R w) j 48 (fro R k) (fro R (k + 1))
    have o2 := i.lo (r := j) (by omega) (by omega)
    have o1 : 0 ≤ own (vl R w) (fro R k) (fro R (k + 1)) j ∧ own (vl R w) (fro R k) (fro R (k + 1)) j ≤ 48 := o1
    refine ⟨Int.mul_nonneg o1.1 (by omega), ?_⟩
    have := Int.mul_le_mul o1.2 (show R (96 + j) + 1 ≤ 100 by omega) (by omega) (by omega)
    omega
  have l := sm_le (c := 4800) (fun j j1 j2 => (hb j j1 j2).2)
  have m := sm_ge (c := 0) (fun j j1 j2 => (hb j j1 j2).1)
  omega
/-- the law's table of costs: 8 x + wd for rows x to x + wd -/
def TBc (V g : Int → Int) (fm many L A : Int) : Prop := ∀ x wd, 0 ≤ x → 1 ≤ wd → x + wd ≤ many → (wd < L ∨ (wd = L ∧ x < A)) → g (8 * x + wd) = lc V 48 (fm + x) (fm + x + wd)
theorem lp_17c {d p : Nat} {Q : am_R → am_H → Prop} {R : Int → Int} {h : am_H} {g : Int → Int} {wide x tot : Int} (i : inv R) {fm many : Int} (hfm : 0 ≤ fm ∧ 1 ≤ many ∧ many ≤ 7 ∧ fm + many ≤ 48) (l : oI h 122 48 (fun j => R (96 + j))) (bC : oI h p 64 g) (hw : 0 ≤ x ∧ 2 ≤ wide ∧ x + wide ≤ many) (ht : TBc (vl R 2) g fm many wide x) : ∀ (n : Nat) (m best al : Int) {x9 : Value}, m + n = x + wide → x ≤ m → ((m ≤ x + 1 ∧ best = -1 ∧ m + n = x + wide ∧ tot = mnf (fun m => lc (vl R 2) 48 (fm + x) m + lc (vl R 2) 48 m (fm + x + wide)) (lc (vl R 2) 48 (fm + x + 1) (fm + x + wide)) (fm + x + 2) (wide - 2).toNat) ∨ (x + 1 < m ∧ 0 ≤ best ∧ best ≤ 500000 ∧ tot = mnf (fun m => lc (vl R 2) 48 (fm + x) m + lc (vl R 2) 48 m (fm + x + wide)) best (fm + m) n)) → (kk : ∀ x9, am_X d 17 134 [.ref 122, .int (iI fm), .int (iI many), .ref p, .int (iI wide), .int (iI x), .int (iI tot), .int (iI (al + sm (vl R 2) (fm + m) n)), .int (iI (x + wide)), x9] [] h Q) → am_X d 17 36 [.ref 122, .int (iI fm), .int (iI many), .ref p, .int (iI wide), .int (iI x), .int (iI best), .int (iI al), .int (iI m), x9] [] h Q
  | 0, m, best, al, x9, h1, h2, hb, kk => by
    have h1 : m = x + wide := by omega
    subst h1
    refine ax_iload f17_36 rfl ?_
    refine ax_iload f17_38 rfl ?_
    refine ax_iload f17_40 rfl ?_
    refine ax_iadd f17_42 ?_
    refine ax_icmp_ge f17_43 rfl ⟨by omega, by omega⟩ ⟨by omega, by omega⟩ (fun q43 => ?_) (fun q43 => absurd q43 (by omega))
    have ht : tot = best := by
      rcases hb with z | z
      · omega
      · exact z.2.2.2
    rw [← ht]
    have e : al + sm (vl R 2) (fm + (x + wide)) 0 = al := Int.add_zero al
    rw [e] at kk
    exact kk x9
  | n + 1, m, best, al, x9, h1, h2, hb, kk => by
    have hbb : -1 ≤ best ∧ best ≤ 500000 := by rcases hb with z | z <;> omega
    refine ax_iload f17_36 rfl ?_
    refine ax_iload f17_38 rfl ?_
    refine ax_iload f17_40 rfl ?_
    refine ax_iadd f17_42 ?_
    refine ax_icmp_ge f17_43 rfl ⟨by omega, by omega⟩ ⟨by omega, by omega⟩ (fun q43 => absurd q43 (by omega)) (fun q43 => ?_)
    refine ax_iload f17_46 rfl ?_
    refine ax_iconst f17_48 ?_
    refine ax_aload_n f17_49 rfl ?_
    refine ax_iload_n f17_50 rfl ?_
    refine ax_iload f17_51 rfl ?_
    refine ax_iadd f17_53 ?_
    refine ax_ialdO f17_54 (by decide) l (by omega) (by omega) rfl ?_
    refine ax_iadd f17_55 ?_
    refine ax_iadd f17_56 ?_
    refine ax_istore (ls' := [_, _, _, _, _, _, _, _, _, _]) f17_57 (Nat.le_of_ble_eq_true rfl) rfl ?_
    refine ax_iload f17_59 rfl ?_
    refine ax_iload f17_61 rfl ?_
    refine ax_icmp_ne f17_63 rfl ⟨by omega, by omega⟩ ⟨by omega, by omega⟩ (fun q63 => ?_) (fun q63 => ?_)
    · have l1 := lc_in (V := vl R 2) (fun j j1 j2 => vl_ival i 2 j j1 j2) 48 (fm + x) (fm + m) (by omega) (by omega) (by omega)
      have l2 := lc_in (V := vl R 2) (fun j j1 j2 => vl_ival i 2 j j1 j2) 48 (fm + m) (fm + x + wide) (by omega) (by omega) (by omega)
      refine ax_aload_n f17_70 rfl ?_
      refine ax_bipush f17_71 ?_
      refine ax_iload f17_73 rfl ?_
      refine ax_imul f17_75 ?_
      refine ax_iload f17_76 rfl ?_
      refine ax_iadd f17_78 ?_
      refine ax_iload f17_79 rfl ?_
      refine ax_isub f17_81 ?_
      refine ax_ialdO f17_82 (by decide) bC (by omega) (by omega) rfl ?_
      rw [show 8 * x + m - x = 8 * x + (m - x) by omega, ht x (m - x) (by omega) (by omega) (by omega) (Or.inl (by omega)), show fm + x + (m - x) = fm + m by omega]
      refine ax_aload_n f17_83 rfl ?_
      refine ax_bipush f17_84 ?_
      refine ax_iload f17_86 rfl ?_
      refine ax_imul f17_88 ?_
      refine ax_iload f17_89 rfl ?_
      refine ax_iadd f17_91 ?_
      refine ax_iload f17_92 rfl ?_
      refine ax_iadd f17_94 ?_
      refine ax_iload f17_95 rfl ?_
      refine ax_isub f17_97 ?_
      refine ax_ialdO f17_98 (by decide) bC (by omega) (by omega) rfl ?_
      rw [show 8 * m + x + wide - m = 8 * m + (x + wide - m) by omega, ht m (x + wide - m) (by omega) (by omega) (by omega) (Or.inl (by omega)), show fm + m + (x + wide - m) = fm + x + wide by omega]
      refine ax_iadd f17_99 ?_
      refine ax_istore (ls' := [_, _, _, _, _, _, _, _, _, _]) f17_100 (Nat.le_of_ble_eq_true rfl) rfl ?_
      refine ax_iload f17_102 rfl ?_
      refine ax_if_lt f17_104 rfl ⟨by omega, by omega⟩ (fun q104 => absurd q104 (by omega)) (fun q104 => ?_)
      refine ax_iload f17_107 rfl ?_
      refine ax_if_lt f17_109 rfl ⟨by omega, by omega⟩ (fun q109 => ?_) (fun q109 => ?_)
      · refine ax_iload f17_119 rfl ?_
        refine ax_goto f17_121 rfl ?_
        refine ax_istore (ls' := [_, _, _, _, _, _, _, _, _, _]) f17_126 (Nat.le_of_ble_eq_true rfl) rfl ?_
        refine ax_iinc (ls' := [_, _, _, _, _, _, _, _, _, _]) f17_128 rfl (Nat.le_of_ble_eq_true rfl) rfl ?_
        refine ax_goto f17_131 rfl ?_
        have e : al + sm (vl R 2) (fm + m) (n + 1) = al + (1 + R (96 + (fm + m))) + sm (vl R 2) (fm + (m + 1)) n := by
          rw [sm_1, vl_2, show fm + (m + 1) = fm + m + 1 by omega]; omega
        rw [e] at kk
        refine lp_17c i hfm l bC hw ht n (m + 1) _ _ (by omega) (by omega) ?_ kk
        rcases hb with z | z
        · refine Or.inr ⟨by omega, by omega, by omega, ?_⟩
          have em : m = x + 1 := by omega
          rw [z.2.2.2, em, lc_1 (a := fm + x) (b := fm + (x + 1)) (by omega), Int.zero_add, show fm + (x + 1) = fm + x + 1 by omega, show fm + (x + 1 + 1) = fm + x + 2 by omega, show (wide - 2).toNat = n by omega]
        · omega
      · refine ax_iload f17_112 rfl ?_
        refine ax_iload f17_114 rfl ?_
        refine ax_icmp_ge f17_116 rfl ⟨by omega, by omega⟩ ⟨by omega, by omega⟩ (fun q116 => ?_) (fun q116 => ?_)
        · refine ax_iload f17_124 rfl ?_
          refine ax_istore (ls' := [_, _, _, _, _, _, _, _, _, _]) f17_126 (Nat.le_of_ble_eq_true rfl) rfl ?_
          refine ax_iinc (ls' := [_, _, _, _, _, _, _, _, _, _]) f17_128 rfl (Nat.le_of_ble_eq_true rfl) rfl ?_
          refine ax_goto f17_131 rfl ?_
          have e : al + sm (vl R 2) (fm + m) (n + 1) = al + (1 + R (96 + (fm + m))) + sm (vl R 2) (fm + (m + 1)) n := by
            rw [sm_1, vl_2, show fm + (m + 1) = fm + m + 1 by omega]; omega
          rw [e] at kk
          refine lp_17c i hfm l bC hw ht n (m + 1) _ _ (by omega) (by omega) ?_ kk
          rcases hb with z | z
          · omega
          · refine Or.inr ⟨by omega, by omega, by omega, ?_⟩
            rw [z.2.2.2]
            show mnf _ (min best (lc (vl R 2) 48 (fm + x) (fm + m) + lc (vl R 2) 48 (fm + m) (fm + x + wide))) (fm + m + 1) n = _
            rw [show min best (lc (vl R 2) 48 (fm + x) (fm + m) + lc (vl R 2) 48 (fm + m) (fm + x + wide)) = best by omega, show fm + (m + 1) = fm + m + 1 by omega]
        · refine ax_iload f17_119 rfl ?_
          refine ax_goto f17_121 rfl ?_
          refine ax_istore (ls' := [_, _, _, _, _, _, _, _, _, _]) f17_126 (Nat.le_of_ble_eq_true rfl) rfl ?_
          refine ax_iinc (ls' := [_, _, _, _, _, _, _, _, _, _]) f17_128 rfl (Nat.le_of_ble_eq_true rfl) rfl ?_
          refine ax_goto f17_131 rfl ?_
          have e : al + sm (vl R 2) (fm + m) (n + 1) = al + (1 + R (96 + (fm + m))) + sm (vl R 2) (fm + (m + 1)) n := by
            rw [sm_1, vl_2, show fm + (m + 1) = fm + m + 1 by omega]; omega
          rw [e] at kk
          refine lp_17c i hfm l bC hw ht n (m + 1) _ _ (by omega) (by omega) ?_ kk
          rcases hb with z | z
          · omega
          · refine Or.inr ⟨by omega, by omega, by omega, ?_⟩
            rw [z.2.2.2]
            show mnf _ (min best (lc (vl R 2) 48 (fm + x) (fm + m) + lc (vl R 2) 48 (fm + m) (fm + x + wide))) (fm + m + 1) n = _
            rw [show min best (lc (vl R 2) 48 (fm + x) (fm + m) + lc (vl R 2) 48 (fm + m) (fm + x + wide)) = lc (vl R 2) 48 (fm + x) (fm + m) + lc (vl R 2) 48 (fm + m) (fm + x + wide) by omega, show fm + (m + 1) = fm + m + 1 by omega]
    · refine ax_iconst f17_66 ?_
      refine ax_goto f17_67 rfl ?_
      refine ax_istore (ls' := [_, _, _, _, _, _, _, _, _, _]) f17_100 (Nat.le_of_ble_eq_true rfl) rfl ?_
      refine ax_iload f17_102 rfl ?_
      refine ax_if_lt f17_104 rfl ⟨by omega, by omega⟩ (fun q104 => ?_) (fun q104 => ?_)
      · refine ax_iload f17_124 rfl ?_
        refine ax_istore (ls' := [_, _, _, _, _, _, _, _, _, _]) f17_126 (Nat.le_of_ble_eq_true rfl) rfl ?_
        refine ax_iinc (ls' := [_, _, _, _, _, _, _, _, _, _]) f17_128 rfl (Nat.le_of_ble_eq_true rfl) rfl ?_
        refine ax_goto f17_131 rfl ?_
        have e : al + sm (vl R 2) (fm + m) (n + 1) = al + (1 + R (96 + (fm + m))) + sm (vl R 2) (fm + (m + 1)) n := by
          rw [sm_1, vl_2, show fm + (m + 1) = fm + m + 1 by omega]; omega
        rw [e] at kk
        refine lp_17c i hfm l bC hw ht n (m + 1) best _ (by omega) (by omega) ?_ kk
        rcases hb with z | z
        · exact Or.inl ⟨by omega, z.2.1, by omega, z.2.2.2⟩
        · omega
      · exact absurd q104 (by omega)
theorem lp_17b {d p : Nat} {Q : am_R → am_H → Prop} {R : Int → Int} {wide : Int} (i : inv R) {fm many : Int} (hfm : 0 ≤ fm ∧ 1 ≤ many ∧ many ≤ 7 ∧ fm + many ≤ 48) (hwd : 127 ≤ p ∧ 2 ≤ wide ∧ wide ≤ many) : ∀ (n : Nat) (x : Int) (g : Int → Int) {h : am_H} {x6 x7 x8 x9 : Value} (l : oI h 122 48 (fun j => R (96 + j))) (bC : oI h p 64 g) (h1 : x + n = many - wide + 1) (h2 : 0 ≤ x) (ht : TBc (vl R 2) g fm many wide x) (kk : ∀ h' g' x6 x7 x8 x9, oI h' p 64 g' → TBc (vl R 2) g' fm many wide (many - wide + 1) → fr (fun q => q = p) h h' → am_X d 17 155 [.ref 122, .int (iI fm), .int (iI many), .ref p, .int (iI wide), .int (iI (many - wide + 1)), x6, x7, x8, x9] [] h' Q), am_X d 17 17 [.ref 122, .int (iI fm), .int (iI many), .ref p, .int (iI wide), .int (iI x), x6, x7, x8, x9] [] h Q
  | 0, x, g, h, x6, x7, x8, x9, l, bC, h1, h2, ht, kk => by
    have h1 : x = many - wide + 1 := by omega
    have h3 : many - wide + 1 = x := h1.symm
    rw [h3] at kk
    refine ax_iload f17_17 rfl ?_
    refine ax_iload f17_19 rfl ?_
    refine ax_iadd f17_21 ?_
    refine ax_iload_n f17_22 rfl ?_
    refine ax_icmp_gt f17_23 rfl ⟨by omega, by omega⟩ ⟨by omega, by omega⟩ (fun q23 => ?_) (fun q23 => absurd q23 (by omega))
    exact kk h g _ _ _ _ bC ht fr_rf
  | n + 1, x, g, h, x6, x7, x8, x9, l, bC, h1, h2, ht, kk => by
    refine ax_iload f17_17 rfl ?_
    refine ax_iload f17_19 rfl ?_
    refine ax_iadd f17_21 ?_
    refine ax_iload_n f17_22 rfl ?_
    refine ax_icmp_gt f17_23 rfl ⟨by omega, by omega⟩ ⟨by omega, by omega⟩ (fun q23 => absurd q23 (by omega)) (fun q23 => ?_)
    refine ax_iconst f17_26 ?_
    refine ax_istore (ls' := [_, _, _, _, _, _, _, _, _, _]) f17_27 (Nat.le_of_ble_eq_true rfl) rfl ?_
    refine ax_iconst f17_29 ?_
    refine ax_istore (ls' := [_, _, _, _, _, _, _, _, _, _]) f17_30 (Nat.le_of_ble_eq_true rfl) rfl ?_
    refine ax_iload f17_32 rfl ?_
    refine ax_istore (ls' := [_, _, _, _, _, _, _, _, _, _]) f17_34 (Nat.le_of_ble_eq_true rfl) rfl ?_
    refine lp_17c (tot := mnf (fun m => lc (vl R 2) 48 (fm + x) m + lc (vl R 2) 48 m (fm + x + wide)) (lc (vl R 2) 48 (fm + x + 1) (fm + x + wide)) (fm + x + 2) (wide - 2).toNat) i hfm l bC (by omega) ht wide.toNat x (-1) 0 (by omega) (Int.le_refl _) (Or.inl ⟨by omega, rfl, by omega, rfl⟩) (fun x9 => ?_)
    have e48 := lc_48 (V := vl R 2) (a := fm + x) (b := fm + x + wide) (by omega) (by omega)
    rw [show fm + x + wide - (fm + x) - 2 = wide - 2 by omega, show fm + x + wide - (fm + x) = wide by omega] at e48
    refine ax_aload_n f17_134 rfl ?_
    refine ax_bipush f17_135 ?_
    refine ax_iload f17_137 rfl ?_
    refine ax_imul f17_139 ?_
    refine ax_iload f17_140 rfl ?_
    refine ax_iadd f17_142 ?_
    refine ax_iload f17_143 rfl ?_
    refine ax_iload f17_145 rfl ?_
    refine ax_iadd f17_147 ?_
    rw [Int.zero_add, ← e48]
    refine ax_iastO f17_148 bC (by omega) (by omega) rfl (fun hp1 o1 r1 => ?_)
    have l := l.fr r1 (by omega)
    have bC := o1
    refine ax_iinc (ls' := [_, _, _, _, _, _, _, _, _, _]) f17_149 rfl (Nat.le_of_ble_eq_true rfl) rfl ?_
    refine ax_goto f17_152 rfl ?_
    refine lp_17b i hfm hwd n (x + 1) _ l bC (by omega) (by omega) (fun x1 wd a1 a2 a3 a4 => ?_) (fun h' g' z6 z7 z8 z9 c1 c2 c3 => kk h' g' z6 z7 z8 z9 c1 c2 (r1.trans c3))
    by_cases c : 8 * x1 + wd = 8 * x + wide
    · have cx : x1 = x := by omega
      have cw : wd = wide := by omega
      rw [cx, cw]; exact uZ_s
    · rw [uZ_n c]; exact ht x1 wd a1 a2 a3 (by omega)
theorem lp_17a {d p : Nat} (hp : 127 ≤ p) {Q : am_R → am_H → Prop} {R : Int → Int} (i : inv R) {fm many : Int} (hfm : 0 ≤ fm ∧ 1 ≤ many ∧ many ≤ 7 ∧ fm + many ≤ 48) : ∀ (n : Nat) (wide : Int) (g : Int → Int) {h : am_H} {x5 x6 x7 x8 x9 : Value} (l : oI h 122 48 (fun j => R (96 + j))) (bC : oI h p 64 g) (h1 : wide + n = max (many + 1) 2) (h2 : 2 ≤ wide) (ht : TBc (vl R 2) g fm many wide 0) (kk : ∀ h' g' x4 x5 x6 x7 x8 x9, oI h' p 64 g' → TBc (vl R 2) g' fm many (many + 1) 0 → fr (fun q => q = p) h h' → am_X d 17 161 [.ref 122, .int (iI fm), .int (iI many), .ref p, x4, x5, x6, x7, x8, x9] [] h' Q), am_X d 17 8 [.ref 122, .int (iI fm), .int (iI many), .ref p, .int (iI wide), x5, x6, x7, x8, x9] [] h Q
  | 0, wide, g, h, x5, x6, x7, x8, x9, l, bC, h1, h2, ht, kk => by
    refine ax_iload f17_8 rfl ?_
    refine ax_iload_n f17_10 rfl ?_
    refine ax_icmp_gt f17_11 rfl ⟨by omega, by omega⟩ ⟨by omega, by omega⟩ (fun q11 => ?_) (fun q11 => absurd q11 (by omega))
    exact kk h g _ _ _ _ _ _ bC (fun x wd a1 a2 a3 a4 => ht x wd a1 a2 a3 (by omega)) fr_rf
  | n + 1, wide, g, h, x5, x6, x7, x8, x9, l, bC, h1, h2, ht, kk => by
    by_cases cw : many < wide
    · refine ax_iload f17_8 rfl ?_
      refine ax_iload_n f17_10 rfl ?_
      refine ax_icmp_gt f17_11 rfl ⟨by omega, by omega⟩ ⟨by omega, by omega⟩ (fun q11 => ?_) (fun q11 => absurd q11 (by omega))
      exact kk h g _ _ _ _ _ _ bC (fun x wd a1 a2 a3 a4 => ht x wd a1 a2 a3 (by omega)) fr_rf
    · refine ax_iload f17_8 rfl ?_
      refine ax_iload_n f17_10 rfl ?_
      refine ax_icmp_gt f17_11 rfl ⟨by omega, by omega⟩ ⟨by omega, by omega⟩ (fun q11 => absurd q11 (by omega)) (fun q11 => ?_)
      refine ax_iconst f17_14 ?_
      refine ax_istore (ls' := [_, _, _, _, _, _, _, _, _, _]) f17_15 (Nat.le_of_ble_eq_true rfl) rfl ?_
      refine lp_17b i hfm ⟨hp, h2, by omega⟩ (many - wide + 1).toNat 0 g l bC (by omega) (Int.le_refl _) ht (fun h1_ g1 x6 x7 x8 x9 c1 c2 c3 => ?_)
      have l := l.fr c3 (by omega)
      refine ax_iinc (ls' := [_, _, _, _, _, _, _, _, _, _]) f17_155 rfl (Nat.le_of_ble_eq_true rfl) rfl ?_
      refine ax_goto f17_158 rfl ?_
      exact lp_17a hp i hfm n (wide + 1) g1 l c1 (by omega) (by omega) (fun x wd a1 a2 a3 a4 => c2 x wd a1 a2 a3 (by omega)) (fun h' g' z4 z5 z6 z7 z8 z9 e1 e2 e3 => kk h' g' z4 z5 z6 z7 z8 z9 e1 e2 (c3.trans e3))
theorem c_17 {h : am_H} (hl : 127 ≤ h.1.length) {R : Int → Int} (i : inv R) {fm many : Int} (hfm : 0 ≤ fm ∧ 1 ≤ many ∧ many ≤ 7 ∧ fm + many ≤ 48) (l : oI h 122 48 (fun j => R (96 + j))) : am_X 0 17 0 (am_ent 17 [.ref 122, .int (iI fm), .int (iI many)]) [] h (fun r h' => rI r (lc (vl R 2) 48 fm (fm + many)) ∧ gx (fun _ => False) h h' 1 64) := by
  show am_X 0 17 0 [.ref 122, .int (iI fm), .int (iI many), am_u, am_u, am_u, am_u, am_u, am_u, am_u] [] h _
  obtain ⟨p, hl0⟩ : ∃ p, h.1.length = p := ⟨_, rfl⟩
  have hp : 127 ≤ p := by omega
  refine ax_bipush f17_0 ?_
  refine ax_nwaO (A := (64, .inl fun _ => 0)) (N := 64) (p := p) f17_2 (by omega) (by omega) rfl rfl hl0 (fun ha1 o1 g1 => ?_)
  have hl1 : ha1.1.length = p + 1 := by have := g1.2.1; omega
  have bC : oI ha1 p 64 (fun _ => 0) := oA_0 o1
  have l := l.gw g1 (by omega)
  refine ax_astore_n (ls' := [_, _, _, _, _, _, _, _, _, _]) f17_4 (Nat.le_of_ble_eq_true rfl) rfl ?_
  refine ax_iconst f17_5 ?_
  refine ax_istore (ls' := [_, _, _, _, _, _, _, _, _, _]) f17_6 (Nat.le_of_ble_eq_true rfl) rfl ?_
  refine lp_17a (d := 0) hp i hfm (max (many + 1) 2 - 2).toNat 2 (fun _ => 0) l bC (by omega) (Int.le_refl _) (fun x wd a1 a2 a3 a4 => by
    show (0 : Int) = _
    rw [lc_1 (by omega)]) (fun h2 g2 x4 x5 x6 x7 x8 x9 c1 c2 c3 => ?_)
  have bC := c1
  have e := c2 0 many (Int.le_refl _) (by omega) (by omega) (Or.inl (by omega))
  rw [show 8 * 0 + many = many by omega, Int.add_zero] at e
  refine ax_aload_n f17_161 rfl ?_
  refine ax_iload_n f17_162 rfl ?_
  refine ax_ialdO f17_163 (by decide) bC (by omega) (by omega) rfl ?_
  rw [e]
  refine ax_ireturn f17_164 rfl rfl ?_
  exact ⟨rfl, gx_wf g1 hl0 c3 (fun q q1 q2 => by omega)⟩
end LEA
