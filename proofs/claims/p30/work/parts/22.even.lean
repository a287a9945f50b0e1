/-! ===== the class's states of the meadow: even fences, searches noted, copies ===== -/
section EVN
theorem gf_bnd {R : Int → Int} (g : Int) : 0 ≤ sm (gf R g) 0 48 ∧ sm (gf R g) 0 48 ≤ 48 := by
  have l := sm_le (f := gf R g) (c := 1) (n := 48) (a := 0) (fun j _ _ => by have := gf_01 R g j; omega)
  have l2 := sm_ge (f := gf R g) (c := 0) (n := 48) (a := 0) (fun j _ _ => by have := gf_01 R g j; omega)
  omega
theorem lp_67 {d p : Nat} {h : am_H} {Q : am_R → am_H → Prop} {R : Int → Int} {g : Int} (o : h.1[p]? = some (.inr (3, Mfs p R))) (mw : oI h (p + 1) 48 R) (i : ibt R 0 48 1 99) (hg : (∀ j, 0 ≤ j → j < 48 → R j ≤ g) ∧ inI g) : ∀ (n : Nat) (r : Int), r + n = 48 → 0 ≤ r → (am_X d 67 62 [.ref p, .int (iI g), .long (lB fun j => if j < 48 then gf R g j else 0), am_u, .int (iI (gb R g (48 : Int).toNat)), .int (iI 48)] [] h Q) → am_X d 67 8 [.ref p, .int (iI g), .long (lB fun j => if j < r then gf R g j else 0), am_u, .int (iI (gb R g r.toNat)), .int (iI r)] [] h Q
  | 0, r, h1, h2, k => by
    have h1 : r = 48 := by omega
    subst h1
    obtain ⟨b1, b2⟩ := gb_in i g 48 (by omega)
    refine ax_iload f67_8 rfl ?_
    refine ax_bipush f67_10 ?_
    refine ax_icmp_ge f67_12 rfl ⟨by omega, by omega⟩ ⟨by omega, by omega⟩ (fun q12 => ?_) (fun q12 => absurd q12 (by omega))
    exact k
  | n + 1, r, h1, h2, k => by
    obtain ⟨b1, b2⟩ := gb_in i g r.toNat (by omega)
    obtain ⟨hg, hgi1, hgi2⟩ := hg
    have hw := i r h2 (by omega)
    rw [Int.zero_add] at hw
    refine ax_iload f67_8 rfl ?_
    refine ax_bipush f67_10 ?_
    refine ax_icmp_ge f67_12 rfl ⟨by omega, by omega⟩ ⟨by omega, by omega⟩ (fun q12 => absurd q12 (by omega)) (fun q12 => ?_)
    refine ax_iload f67_15 rfl ?_
    refine ax_if_le f67_17 rfl ⟨by omega, by omega⟩ (fun q17 => ?_) (fun q17 => ?_)
    · refine ax_iload f67_44 rfl ?_
      refine ax_aload_n f67_46 rfl ?_
      refine ax_getf f67_47 o rfl ?_
      refine ax_iload f67_50 rfl ?_
      refine ax_ialdO f67_52 (by decide) mw (by omega) (by omega) rfl ?_
      refine ax_iadd f67_53 ?_
      refine ax_istore f67_54 (Nat.le_of_ble_eq_true rfl) rfl ?_
      refine ax_iinc f67_56 rfl (Nat.le_of_ble_eq_true rfl) rfl ?_
      refine ax_goto f67_59 rfl ?_
      have hr0 : r = 0 := by omega
      have hb0 : gb R g r.toNat = 0 := by subst hr0; rfl
      have hgr := hg r h2 (by omega)
      have eb : gb R g (r + 1).toNat = gb R g r.toNat + R r := by
        rw [show (r + 1).toNat = r.toNat + 1 by omega]
        show (if gb R g r.toNat + R (r.toNat : Int) ≤ g then gb R g r.toNat + R (r.toNat : Int) else R (r.toNat : Int)) = _
        rw [Int.toNat_of_nonneg h2, if_pos (by omega)]
      have es : (lB fun j => if j < r then gf R g j else 0) = lB fun j => if j < r + 1 then gf R g j else 0 := lB_congE fun j j1 j2 => by
        by_cases e : j = r
        · subst e
          rw [if_neg (by omega), if_pos (by omega)]
          unfold gf
          rw [if_pos (by omega)]
        · by_cases e2 : j < r
          · rw [if_pos e2, if_pos (by omega)]
          · rw [if_neg e2, if_neg (by omega)]
      have ih := lp_67 (d := d) (h := h) (Q := Q) o mw i ⟨hg, hgi1, hgi2⟩ n (r + 1) (by omega) (by omega) k
      rw [eb, ← es] at ih
      exact ih
    · refine ax_iload f67_20 rfl ?_
      refine ax_aload_n f67_22 rfl ?_
      refine ax_getf f67_23 o rfl ?_
      refine ax_iload f67_26 rfl ?_
      refine ax_ialdO f67_28 (by decide) mw (by omega) (by omega) rfl ?_
      refine ax_iadd f67_29 ?_
      refine ax_iload_n f67_30 rfl ?_
      refine ax_icmp_le f67_31 rfl ⟨by omega, by omega⟩ ⟨by omega, by omega⟩ (fun q31 => ?_) (fun q31 => ?_)
      · refine ax_iload f67_44 rfl ?_
        refine ax_aload_n f67_46 rfl ?_
        refine ax_getf f67_47 o rfl ?_
        refine ax_iload f67_50 rfl ?_
        refine ax_ialdO f67_52 (by decide) mw (by omega) (by omega) rfl ?_
        refine ax_iadd f67_53 ?_
        refine ax_istore f67_54 (Nat.le_of_ble_eq_true rfl) rfl ?_
        refine ax_iinc f67_56 rfl (Nat.le_of_ble_eq_true rfl) rfl ?_
        refine ax_goto f67_59 rfl ?_
        have eb : gb R g (r + 1).toNat = gb R g r.toNat + R r := by
          rw [show (r + 1).toNat = r.toNat + 1 by omega]
          show (if gb R g r.toNat + R (r.toNat : Int) ≤ g then gb R g r.toNat + R (r.toNat : Int) else R (r.toNat : Int)) = _
          rw [Int.toNat_of_nonneg h2, if_pos (by omega)]
        have es : (lB fun j => if j < r then gf R g j else 0) = lB fun j => if j < r + 1 then gf R g j else 0 := lB_congE fun j j1 j2 => by
          by_cases e : j = r
          · subst e
            rw [if_neg (by omega), if_pos (by omega)]
            unfold gf
            rw [if_pos (by omega)]
          · by_cases e2 : j < r
            · rw [if_pos e2, if_pos (by omega)]
            · rw [if_neg e2, if_neg (by omega)]
        have ih := lp_67 (d := d) (h := h) (Q := Q) o mw i ⟨hg, hgi1, hgi2⟩ n (r + 1) (by omega) (by omega) k
        rw [eb, ← es] at ih
        exact ih
      · refine ax_lload_n f67_34 rfl ?_
        refine ax_lconst f67_35 ?_
        refine ax_iload f67_36 rfl ?_
        refine ax_lshl f67_38 ?_
        refine ax_lor f67_39 ?_
        rw [show Int64.ofNat ((1 : Fin 2) : Nat) <<< ((iI r).toInt64 &&& 63) = _ from lB_one h2 (by omega), lB_or]
        refine ax_lstore_n f67_40 (Nat.le_of_ble_eq_true rfl) rfl ?_
        refine ax_iconst f67_41 ?_
        refine ax_istore f67_42 (Nat.le_of_ble_eq_true rfl) rfl ?_
        refine ax_iload f67_44 rfl ?_
        refine ax_aload_n f67_46 rfl ?_
        refine ax_getf f67_47 o rfl ?_
        refine ax_iload f67_50 rfl ?_
        refine ax_ialdO f67_52 (by decide) mw (by omega) (by omega) rfl ?_
        refine ax_iadd f67_53 ?_
        refine ax_istore f67_54 (Nat.le_of_ble_eq_true rfl) rfl ?_
        refine ax_iinc f67_56 rfl (Nat.le_of_ble_eq_true rfl) rfl ?_
        refine ax_goto f67_59 rfl ?_
        have eb : gb R g (r + 1).toNat = 0 + R r := by
          rw [show (r + 1).toNat = r.toNat + 1 by omega]
          show (if gb R g r.toNat + R (r.toNat : Int) ≤ g then gb R g r.toNat + R (r.toNat : Int) else R (r.toNat : Int)) = _
          rw [Int.toNat_of_nonneg h2, if_neg (by omega)]; omega
        have es : (lB fun j => if (if j < r then gf R g j else 0) = 1 then 1 else if j = r then 1 else 0) = lB fun j => if j < r + 1 then gf R g j else 0 := lB_congE fun j j1 j2 => by
          by_cases e : j = r
          · subst e
            rw [if_neg (c := j < j) (by omega), if_pos (c := j < j + 1) (by omega)]
            unfold gf
            rw [if_neg (c := _ ≤ g) (by omega)]; simp
          · by_cases e2 : j < r
            · rw [if_pos (c := j < r + 1) (by omega)]
              rcases gf_01 R g j with e3 | e3 <;> simp [e, e2, e3]
            · rw [if_neg (c := j < r + 1) (by omega)]; simp [e, e2]
        have ih := lp_67 (d := d) (h := h) (Q := Q) o mw i ⟨hg, hgi1, hgi2⟩ n (r + 1) (by omega) (by omega) k
        rw [eb, ← es] at ih
        exact ih
theorem c_67 {h : am_H} {p : Nat} {R : Int → Int} (hM : Mead h p R) (i : ibt R 0 48 1 99) {g : Int} (hg : (∀ j, 0 ≤ j → j < 48 → R j ≤ g) ∧ inI g) : am_X 0 67 0 (am_ent 67 [.ref p, .int (iI g)]) [] h (fun r h' => rL r (lB (gf R g)) ∧ h' = h) := by
  show am_X 0 67 0 [.ref p, .int (iI g), am_u, am_u, am_u, am_u] [] h _
  refine ax_lconst f67_0 ?_
  refine ax_lstore_n f67_1 (Nat.le_of_ble_eq_true rfl) rfl ?_
  refine ax_iconst f67_2 ?_
  refine ax_istore f67_3 (Nat.le_of_ble_eq_true rfl) rfl ?_
  refine ax_iconst f67_5 ?_
  refine ax_istore f67_6 (Nat.le_of_ble_eq_true rfl) rfl ?_
  have e0 : (0 : Int64) = lB fun j => if j < 0 then gf R g j else 0 := by
    have : lB (fun _ => 0) = (0 : Int64) := by decide
    rw [← this]
    exact lB_congE fun j j1 j2 => by rw [if_neg (by omega)]
  have ih := lp_67 (d := 0) (Q := fun r h' => rL r (lB (gf R g)) ∧ h' = h) hM.1 hM.2.1 i hg 48 0 (by omega) (by omega) (by
    refine ax_lload_n f67_62 rfl ?_
    refine ax_lreturn f67_63 rfl ?_
    exact ⟨rL_of (lB_congE fun j j1 j2 => by rw [if_pos j2]), rfl⟩)
  rw [← e0] at ih
  exact ih
def ftz (R : Int → Int) (g n : Int) : Int := if hvy R ≤ g then (if sm (gf R g) 0 48 ≤ n then 1 else 0) else 0
theorem ftz_1 {R : Int → Int} {g n : Int} : ftz R g n = 1 ↔ fts R g n := by
  unfold ftz fts
  split
  · split <;> simp_all
  · rename_i c
    exact ⟨fun z => absurd z (by decide), fun z => absurd z.1 c⟩
theorem ftz_01 {R : Int → Int} {g n : Int} : ftz R g n = 0 ∨ ftz R g n = 1 := by
  unfold ftz
  split
  · split <;> simp
  · simp
theorem lp_66 {d p : Nat} {h : am_H} {Q : am_R → am_H → Prop} {R : Int → Int} {g : Int} {x : Int32} (o : h.1[p]? = some (.inr (3, Mfs p R))) (mw : oI h (p + 1) 48 R) (i : ibt R 0 48 1 99) (hg : inI g) : ∀ (n : Nat) (r : Int), r + n = 48 → 0 ≤ r → (∀ j, 0 ≤ j → j < r → R j ≤ g) → (∀ j, 0 ≤ j → j < 48 → ¬ R j ≤ g → Q (.inl (some (.int (iI 0)))) h) → ((∀ j, 0 ≤ j → j < 48 → R j ≤ g) → am_X d 66 26 [.ref p, .int (iI g), .int x, .int (iI 48)] [] h Q) → am_X d 66 2 [.ref p, .int (iI g), .int x, .int (iI r)] [] h Q
  | 0, r, h1, h2, hp, k0, k => by
    have h1 : r = 48 := by omega
    subst h1
    refine ax_iload_n f66_2 rfl ?_
    refine ax_bipush f66_3 ?_
    refine ax_icmp_ge f66_5 rfl ⟨by omega, by omega⟩ ⟨by omega, by omega⟩ (fun q5 => ?_) (fun q5 => absurd q5 (by omega))
    exact k fun j j1 j2 => hp j j1 (by omega)
  | n + 1, r, h1, h2, hp, k0, k => by
    have hw := i r h2 (by omega)
    rw [Int.zero_add] at hw
    obtain ⟨hg1, hg2⟩ := id hg
    refine ax_iload_n f66_2 rfl ?_
    refine ax_bipush f66_3 ?_
    refine ax_icmp_ge f66_5 rfl ⟨by omega, by omega⟩ ⟨by omega, by omega⟩ (fun q5 => absurd q5 (by omega)) (fun q5 => ?_)
    refine ax_aload_n f66_8 rfl ?_
    refine ax_getf f66_9 o rfl ?_
    refine ax_iload_n f66_12 rfl ?_
    refine ax_ialdO f66_13 (by decide) mw (by omega) (by omega) rfl ?_
    refine ax_iload_n f66_14 rfl ?_
    refine ax_icmp_le f66_15 rfl ⟨by omega, by omega⟩ ⟨by omega, by omega⟩ (fun q15 => ?_) (fun q15 => ?_)
    · refine ax_iinc f66_20 rfl (Nat.le_of_ble_eq_true rfl) rfl ?_
      refine ax_goto f66_23 rfl ?_
      refine lp_66 o mw i hg n (r + 1) (by omega) (by omega) (fun j j1 j2 => ?_) k0 k
      by_cases e : j = r
      · rw [e]; exact q15
      · exact hp j j1 (by omega)
    · refine ax_iconst f66_18 ?_
      refine ax_ireturn f66_19 rfl rfl ?_
      exact k0 r h2 (by omega) (by omega)
theorem c_66 {h : am_H} {p : Nat} {R : Int → Int} (hM : Mead h p R) (i : ibt R 0 48 1 99) {g n : Int} (hg : inI g) (hn : inI n) : am_X 1 66 0 (am_ent 66 [.ref p, .int (iI g), .int (iI n)]) [] h (fun r h' => rI r (ftz R g n) ∧ h' = h) := by
  show am_X 1 66 0 [.ref p, .int (iI g), .int (iI n), am_u] [] h _
  obtain ⟨hn1, hn2⟩ := id hn
  refine ax_iconst f66_0 ?_
  refine ax_istore_n f66_1 (Nat.le_of_ble_eq_true rfl) rfl ?_
  refine lp_66 hM.1 hM.2.1 i hg 48 0 (by omega) (by omega) (fun j j1 j2 => by omega) (fun j j1 j2 j3 => ?_) (fun hall => ?_)
  · have e : ftz R g n = 0 := by
      unfold ftz
      rw [if_neg fun z => j3 ((hvy_sp.mp z).2 j j1 j2)]
    exact ⟨rI_of e.symm, rfl⟩
  · have hv : hvy R ≤ g := hvy_sp.mpr ⟨by have := hall 0 (by omega) (by omega); have := i 0 (by omega) (by omega); rw [Int.zero_add] at this; omega, hall⟩
    have gb2 := gf_bnd (R := R) g
    refine ax_aload_n f66_26 rfl ?_
    refine ax_iload_n f66_27 rfl ?_
    refine ax_cvL f66_28 hM.1 rfl rfl rfl rfl rfl rfl rfl rfl (c_67 hM i ⟨hall, hg⟩) ?_
    rintro _ rfl
    refine ax_csI f66_31 (Or.inl rfl) rfl rfl rfl rfl rfl rfl (c_bit01 (fun j _ _ => gf_01 R g j)) ?_
    rintro _ rfl
    refine ax_iload_n f66_34 rfl ?_
    refine ax_icmp_gt f66_35 rfl ⟨by omega, by omega⟩ ⟨by omega, by omega⟩ (fun q35 => ?_) (fun q35 => ?_)
    · refine ax_iconst f66_42 ?_
      refine ax_ireturn f66_43 rfl rfl ?_
      exact ⟨rI_of (by unfold ftz; rw [if_pos hv]; split <;> omega), rfl⟩
    · refine ax_iconst f66_38 ?_
      refine ax_goto f66_39 rfl ?_
      refine ax_ireturn f66_43 rfl rfl ?_
      exact ⟨rI_of (by unfold ftz; rw [if_pos hv]; split <;> omega), rfl⟩
def stp : Nat → Int
  | 0 => 0
  | k + 1 => ((2 ^ k : Nat) : Int)
theorem stp_sh : ∀ k, k < 13 → iI (stp (k + 1)) >>> (iI 1 &&& 31) = iI (stp k) := by decide +kernel
theorem stp_in : ∀ k, k < 14 → 0 ≤ stp k ∧ stp k ≤ 4096 := by decide +kernel
theorem stp_4 : ∀ k, k < 13 → 2 * stp k ≤ stp (k + 1) := by decide +kernel
theorem stp_2 : ∀ k, k < 13 → (stp (k + 1) = 1 ∧ k = 0) ∨ stp (k + 1) = 2 * stp k := by decide +kernel
theorem lp_65 {d p : Nat} {h : am_H} {Q : am_R → am_H → Prop} {R : Int → Int} {nn : Int} (hM : Mead h p R) (i : ibt R 0 48 1 99) (hn : inI nn) : ∀ (n : Nat), n ≤ 13 → ∀ lo : Int, 0 ≤ lo → lo + 2 * stp n ≤ 8192 → fts R (lo + (if n = 0 then 1 else 2 * stp n)) nn → ¬ fts R lo nn → (∀ lo', fts R (lo' + 1) nn → ¬ fts R lo' nn → am_X (d + 2) 65 32 [.ref p, .int (iI nn), .int (iI lo'), .int (iI 0)] [] h Q) → am_X (d + 2) 65 6 [.ref p, .int (iI nn), .int (iI lo), .int (iI (stp n))] [] h Q
  | 0, hn13, lo, h1, h2, hi, hlo, k => by
    show am_X (d + 2) 65 6 [.ref p, .int (iI nn), .int (iI lo), .int (iI 0)] [] h Q
    refine ax_iload_n f65_6 rfl ?_
    refine ax_if_le f65_7 rfl ⟨by omega, by omega⟩ (fun q7 => ?_) (fun q7 => absurd q7 (by omega))
    exact k lo (by simpa using hi) hlo
  | n + 1, hn13, lo, h1, h2, hi, hlo, k => by
    have st1 := stp_in (n + 1) (by omega)
    have st3 := stp_in n (by omega)
    have st2 := stp_2 n (by omega)
    have st4 := stp_4 n (by omega)
    have st0 : 0 < stp (n + 1) := by show 0 < ((2 ^ n : Nat) : Int); have := Nat.two_pow_pos n; omega
    refine ax_iload_n f65_6 rfl ?_
    refine ax_if_le f65_7 rfl ⟨by omega, by omega⟩ (fun q7 => absurd q7 (by omega)) (fun q7 => ?_)
    refine ax_aload_n f65_10 rfl ?_
    refine ax_iload_n f65_11 rfl ?_
    refine ax_iload_n f65_12 rfl ?_
    refine ax_iadd f65_13 ?_
    refine ax_iload_n f65_14 rfl ?_
    refine ax_cvI f65_15 hM.1 rfl rfl rfl rfl rfl rfl rfl rfl (c_66 hM i ⟨by omega, by omega⟩ hn) ?_
    rintro _ rfl
    have hz := ftz_01 (R := R) (g := lo + stp (n + 1)) (n := nn)
    refine ax_if_ne f65_18 rfl ⟨by omega, by omega⟩ (fun q18 => ?_) (fun q18 => ?_)
    · refine ax_iload_n f65_25 rfl ?_
      refine ax_iconst f65_26 ?_
      refine ax_ishr f65_27 ?_
      refine ax_istore_n f65_28 (Nat.le_of_ble_eq_true rfl) rfl ?_
      refine ax_goto f65_29 rfl ?_
      rw [stp_sh n (by omega)]
      refine lp_65 hM i hn n (by omega) lo ?_ ?_ ?_ ?_ k
      · omega
      · omega
      · by_cases e0 : n = 0
        · subst e0
          have hf := ftz_1.mp (show ftz R (lo + stp (0 + 1)) nn = 1 by omega)
          exact hf
        · have hf := ftz_1.mp (show ftz R (lo + stp (n + 1)) nn = 1 by omega)
          rw [if_neg e0]
          rcases st2 with ⟨e1, e2⟩ | e1
          · exact absurd e2 e0
          · rw [e1] at hf; exact hf
      · exact hlo
    · refine ax_iload_n f65_21 rfl ?_
      refine ax_iload_n f65_22 rfl ?_
      refine ax_iadd f65_23 ?_
      refine ax_istore_n f65_24 (Nat.le_of_ble_eq_true rfl) rfl ?_
      refine ax_iload_n f65_25 rfl ?_
      refine ax_iconst f65_26 ?_
      refine ax_ishr f65_27 ?_
      refine ax_istore_n f65_28 (Nat.le_of_ble_eq_true rfl) rfl ?_
      refine ax_goto f65_29 rfl ?_
      rw [stp_sh n (by omega)]
      refine lp_65 hM i hn n (by omega) (lo + stp (n + 1)) ?_ ?_ ?_ ?_ k
      · omega
      · omega
      · rw [if_neg (by omega)] at hi
        by_cases e0 : n = 0
        · subst e0
          rw [if_pos rfl]
          exact fts_mono i hi (by show lo + 2 * 1 ≤ lo + 1 + 1; omega)
        · rw [if_neg e0]
          rcases st2 with ⟨e1, e2⟩ | e1
          · exact absurd e2 e0
          · exact fts_mono i hi (by omega)
      · exact fun z => by have := ftz_1.mpr z; omega
theorem c_65 {h : am_H} {p : Nat} {R : Int → Int} (hM : Mead h p R) (i : ibt R 0 48 1 99) {n : Int} (hn : 0 ≤ n) (hni : inI n) : am_X 2 65 0 (am_ent 65 [.ref p, .int (iI n)]) [] h (fun r h' => rI r (bal R n) ∧ h' = h) := by
  show am_X 2 65 0 [.ref p, .int (iI n), am_u, am_u] [] h _
  refine ax_iconst f65_0 ?_
  refine ax_istore_n f65_1 (Nat.le_of_ble_eq_true rfl) rfl ?_
  refine ax_sipush f65_2 ?_
  refine ax_istore_n f65_5 (Nat.le_of_ble_eq_true rfl) rfl ?_
  refine lp_65 (d := 0) hM i hni 13 (by omega) 0 (by omega) (by decide) (fts_big i (by decide) hn) (fts_0 i (by omega)) ?_
  intro lo' g1 g2
  refine ax_iload_n f65_32 rfl ?_
  refine ax_iconst f65_33 ?_
  refine ax_iadd f65_34 ?_
  refine ax_ireturn f65_35 rfl rfl ?_
  exact ⟨rI_of (bal_of i hn g1 g2).symm, rfl⟩
theorem c_68 {h : am_H} {p : Nat} {R : Int → Int} (hM : Mead h p R) (i : ibt R 0 48 1 99) {n : Int} (hn : 0 ≤ n) (hni : inI n) : am_X 3 68 0 (am_ent 68 [.ref p, .int (iI n)]) [] h (fun r h' => rL r (lB (gf R (bal R n))) ∧ h' = h) := by
  show am_X 3 68 0 [.ref p, .int (iI n)] [] h _
  refine ax_aload_n f68_0 rfl ?_
  refine ax_aload_n f68_1 rfl ?_
  refine ax_iload_n f68_2 rfl ?_
  refine ax_cvI f68_3 hM.1 rfl rfl rfl rfl rfl rfl rfl rfl (c_65 hM i hn hni) ?_
  rintro _ rfl
  refine ax_cvL f68_6 hM.1 rfl rfl rfl rfl rfl rfl rfl rfl (c_67 hM i ⟨(hvy_sp.mp (bal_sp i hn).1.1).2, by have := bal_in i hn; exact ⟨by omega, by omega⟩⟩) ?_
  rintro _ rfl
  refine ax_lreturn f68_9 rfl ?_
  exact ⟨rL_of rfl, rfl⟩
end EVN
