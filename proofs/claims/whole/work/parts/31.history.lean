/-! ===== states remembered and saved: the class ===== -/
section HIS
/-- the states remembered, the oldest first: the meadows of the ring M, the next place nx, c of them -/
def Rng (S : Int → Int → Int) (c nx : Int) (M : Nat → Int → Int) : Prop := ∀ k : Int, 0 ≤ k → k < c → S k = M ((nx - c + k) % 14).toNat
def Hist (h : am_H) (s : Nat) (S : Int → Int → Int) (c : Int) : Prop :=
  ∃ nx M f, h.1[s]? = some (.inr (2, [.ref (s + 1), .int (iI nx), .int (iI c)])) ∧ (0 ≤ nx ∧ nx < 14 ∧ 0 ≤ c ∧ c ≤ 14) ∧ (h.1[s + 1]? = some (.inl (4, 14, .inr (.inr (.inr (.inr f))))) ∧ ∀ i : Nat, i < 14 → f i = some (s + 2 + 5 * i)) ∧ (∀ i : Nat, i < 14 → Mead h (s + 2 + 5 * i) (M i)) ∧ Rng S c nx M
def HiS (s q : Nat) : Prop := s ≤ q ∧ q ≤ s + 71
theorem Hist.mv {h h' : am_H} {s : Nat} {S : Int → Int → Int} {c : Int} {T : Nat → Prop} (a : Hist h s S c) (b : fr T h h') (hq : ∀ q, HiS s q → ¬ T q) : Hist h' s S c := by
  obtain ⟨nx, M, f, o, e, ⟨o2, e2⟩, m, r⟩ := a
  exact ⟨nx, M, f, b.at (hq _ (by unfold HiS; omega)) o, e, ⟨b.at (hq _ (by unfold HiS; omega)) o2, e2⟩, fun i hi => (m i hi).fr b (fun q q1 q2 => hq q (by unfold HiS; omega)), r⟩
/-- one state more is remembered -/
def rmS (S : Int → Int → Int) (c : Int) (R : Int → Int) (k : Int) : Int → Int := if c = 14 then (if k = 13 then R else S (k + 1)) else (if k = c then R else S k)
theorem Rng_add {S : Int → Int → Int} {c nx : Int} {M : Nat → Int → Int} {R : Int → Int} (h : Rng S c nx M) (h1 : 0 ≤ nx) (h2 : nx < 14) (h3 : 0 ≤ c) (h4 : c ≤ 14) : Rng (rmS S c R) (min (c + 1) 14) (if nx = 13 then 0 else nx + 1) (fun i => if i = nx.toNat then R else M i) := by
  intro k k1 k2
  unfold rmS
  dsimp only
  by_cases c1 : c = 14
  · rw [if_pos c1]
    by_cases k3 : k = 13
    · rw [if_pos k3, if_pos]
      split <;> omega
    · rw [if_neg k3, h (k + 1) (by omega) (by omega), if_neg]
      · congr 1
        split <;> omega
      · split <;> omega
  · rw [if_neg c1]
    by_cases k3 : k = c
    · rw [if_pos k3, if_pos]
      split <;> omega
    · rw [if_neg k3, h k (by omega) (by omega), if_neg]
      · congr 1
        split <;> omega
      · split <;> omega
theorem Rng_sub {S : Int → Int → Int} {c nx : Int} {M : Nat → Int → Int} (h : Rng S c nx M) (h1 : 0 ≤ nx) (h2 : nx < 14) (h3 : 0 < c) (h4 : c ≤ 14) : Rng S (c - 1) (if nx = 0 then 13 else nx - 1) M := by
  intro k k1 k2
  rw [h k k1 (by omega)]
  congr 1
  split <;> omega
theorem c_37 {h : am_H} {s : Nat} {S : Int → Int → Int} {c : Int} (hH : Hist h s S c) : am_X 0 37 0 (am_ent 37 [.ref s]) [] h (fun r h' => rV r ∧ Hist h' s S 0 ∧ fr (HiS s) h h') := by
  show am_X 0 37 0 [.ref s] [] h _
  obtain ⟨nx, M, f, o, e, ⟨oa, eA⟩, m, r⟩ := hH
  refine ax_aload_n f37_0 rfl ?_
  refine ax_iconst f37_1 ?_
  refine ax_putfO f37_2 o rfl rfl rfl rfl (fun h1 o1 r1 => ?_)
  refine ax_return f37_5 rfl ?_
  exact ⟨rfl, ⟨nx, M, f, o1, ⟨e.1, e.2.1, by omega, by omega⟩, ⟨r1.at (by omega) oa, eA⟩, fun i hi => (m i hi).fr r1 (fun q q1 q2 => by omega), fun k k1 k2 => by omega⟩, r1.mono (fun q e => by unfold HiS; omega)⟩
theorem c_40 {h : am_H} {s : Nat} {x y : Value} {f : Nat → Option Nat} (o : h.1[s]? = some (.inr (2, [.ref (s + 1), x, y]))) (o2 : h.1[s + 1]? = some (.inl (4, 14, .inr (.inr (.inr (.inr f)))))) (e2 : ∀ i : Nat, i < 14 → f i = some (s + 2 + 5 * i)) {z : Int} (h1 : 0 ≤ z) (h2 : z < 14) : am_X 0 40 0 (am_ent 40 [.ref s, .int (iI z)]) [] h (fun r h' => rR r (s + 2 + 5 * z.toNat) ∧ h' = h) := by
  show am_X 0 40 0 [.ref s, .int (iI z)] [] h _
  refine ax_iload_n f40_0 rfl ?_
  refine ax_if_lt f40_1 rfl ⟨by omega, by omega⟩ (fun q1 => absurd q1 (by omega)) (fun q1 => ?_)
  refine ax_iload_n f40_4 rfl ?_
  refine ax_bipush f40_5 ?_
  refine ax_icmp_ge f40_7 rfl ⟨by omega, by omega⟩ ⟨by omega, by omega⟩ (fun q7 => absurd q7 (by omega)) (fun q7 => ?_)
  refine ax_aload_n f40_10 rfl ?_
  refine ax_getf f40_11 o rfl ?_
  refine ax_iload_n f40_14 rfl ?_
  refine ax_aald f40_15 o2 h1 h2 (by decide) ?_
  rw [e2 z.toNat (by omega)]
  refine ax_goto f40_16 rfl ?_
  refine ax_areturn f40_20 rfl ?_
  exact ⟨rfl, rfl⟩
theorem c_38 {h : am_H} {s p : Nat} {S : Int → Int → Int} {c : Int} {R : Int → Int} (hH : Hist h s S c) (hM : Mead h p R) (hd : p + 4 < s ∨ s + 71 < p) (i : R 192 = 0 ∨ R 192 = 1) : am_X 1 38 0 (am_ent 38 [.ref s, .ref p]) [] h (fun r h' => rV r ∧ Hist h' s (rmS S c R) (min (c + 1) 14) ∧ fr (HiS s) h h') := by
  show am_X 1 38 0 [.ref s, .ref p, am_u] [] h _
  obtain ⟨nx, M, f, o, e, ⟨oa, eA⟩, m, r⟩ := hH
  obtain ⟨ea, eb, ec, ed⟩ := id e
  refine ax_aload_n f38_0 rfl ?_
  refine ax_aload_n f38_1 rfl ?_
  refine ax_getf f38_2 o rfl ?_
  refine ax_cvR (rest := []) f38_5 o rfl rfl rfl rfl rfl rfl rfl rfl (c_40 o oa eA e.1 e.2.1) ?_
  intro _ e_
  obtain rfl := e_.symm
  clear e_
  refine ax_astore_n (ls' := [_, _, _]) f38_8 (Nat.le_of_ble_eq_true rfl) rfl ?_
  refine ax_aload_n f38_9 rfl ?_
  refine ax_ifnull f38_10 ?_
  refine ax_aload_n f38_13 rfl ?_
  refine ax_aload_n f38_14 rfl ?_
  refine ax_cvV (rest := []) f38_15 (m nx.toNat (by omega)).1 rfl rfl rfl rfl rfl rfl rfl rfl (c_42 (m nx.toNat (by omega)) hM (by omega) i) ?_
  rintro h9 ⟨m9, f9⟩
  have o := f9.at (q := s) (by unfold MS; omega) o
  have oa := f9.at (q := s + 1) (by unfold MS; omega) oa
  have hm : ∀ i : Nat, i < 14 → i ≠ nx.toNat → Mead h9 (s + 2 + 5 * i) (M i) := fun i hi hn => (m i hi).fr f9 (fun q q1 q2 => by unfold MS; omega)
  refine ax_aload_n f38_18 rfl ?_
  refine ax_aload_n f38_19 rfl ?_
  refine ax_getf f38_20 o rfl ?_
  refine ax_bipush f38_23 ?_
  refine ax_icmp_ne f38_25 rfl ⟨by omega, by omega⟩ ⟨by omega, by omega⟩ (fun q25 => ?_) (fun q25 => ?_)
  · refine ax_aload_n f38_32 rfl ?_
    refine ax_getf f38_33 o rfl ?_
    refine ax_iconst f38_36 ?_
    refine ax_iadd f38_37 ?_
    refine ax_putfO f38_38 o rfl rfl rfl rfl (fun h2 o2 r2 => ?_)
    refine ax_aload_n f38_41 rfl ?_
    refine ax_aload_n f38_42 rfl ?_
    refine ax_getf f38_43 o2 rfl ?_
    refine ax_iconst f38_46 ?_
    refine ax_iadd f38_47 ?_
    refine ax_bipush f38_48 ?_
    refine ax_min f38_50 (Nat.le_of_ble_eq_true rfl) ⟨by omega, by omega⟩ ⟨by omega, by omega⟩ ?_
    refine ax_putfO f38_53 o2 rfl rfl rfl rfl (fun h3 o3 r3 => ?_)
    refine ax_return f38_56 rfl ?_
    refine ⟨rfl, ⟨nx + 1, fun i => if i = nx.toNat then R else M i, f, o3, ⟨by omega, by omega, by omega, by omega⟩, ⟨r3.at (by omega) (r2.at (by omega) oa), eA⟩, ?_, ?_⟩, ?_⟩
    · intro j hj
      dsimp only
      by_cases ej : j = nx.toNat
      · rw [if_pos ej, ej]
        exact (m9.fr r2 (fun q q1 q2 => by omega)).fr r3 (fun q q1 q2 => by omega)
      · rw [if_neg ej]
        exact ((hm j hj ej).fr r2 (fun q q1 q2 => by omega)).fr r3 (fun q q1 q2 => by omega)
    · have := Rng_add (R := R) r e.1 e.2.1 e.2.2.1 e.2.2.2
      rwa [if_neg (by omega)] at this
    · have F := f9.mono (T := HiS s) (fun x e => by unfold MS at e; unfold HiS; omega)
      have F := F.trans (r2.mono (T := HiS s) (fun x e => by unfold HiS; omega))
      exact F.trans (r3.mono (T := HiS s) (fun x e => by unfold HiS; omega))
  · refine ax_iconst f38_28 ?_
    refine ax_goto f38_29 rfl ?_
    refine ax_putfO f38_38 o rfl rfl rfl rfl (fun h2 o2 r2 => ?_)
    refine ax_aload_n f38_41 rfl ?_
    refine ax_aload_n f38_42 rfl ?_
    refine ax_getf f38_43 o2 rfl ?_
    refine ax_iconst f38_46 ?_
    refine ax_iadd f38_47 ?_
    refine ax_bipush f38_48 ?_
    refine ax_min f38_50 (Nat.le_of_ble_eq_true rfl) ⟨by omega, by omega⟩ ⟨by omega, by omega⟩ ?_
    refine ax_putfO f38_53 o2 rfl rfl rfl rfl (fun h3 o3 r3 => ?_)
    refine ax_return f38_56 rfl ?_
    refine ⟨rfl, ⟨0, fun i => if i = nx.toNat then R else M i, f, o3, ⟨by omega, by omega, by omega, by omega⟩, ⟨r3.at (by omega) (r2.at (by omega) oa), eA⟩, ?_, ?_⟩, ?_⟩
    · intro j hj
      dsimp only
      by_cases ej : j = nx.toNat
      · rw [if_pos ej, ej]
        exact (m9.fr r2 (fun q q1 q2 => by omega)).fr r3 (fun q q1 q2 => by omega)
      · rw [if_neg ej]
        exact ((hm j hj ej).fr r2 (fun q q1 q2 => by omega)).fr r3 (fun q q1 q2 => by omega)
    · have := Rng_add (R := R) r e.1 e.2.1 e.2.2.1 e.2.2.2
      rwa [if_pos (by omega)] at this
    · have F := f9.mono (T := HiS s) (fun x e => by unfold MS at e; unfold HiS; omega)
      have F := F.trans (r2.mono (T := HiS s) (fun x e => by unfold HiS; omega))
      exact F.trans (r3.mono (T := HiS s) (fun x e => by unfold HiS; omega))
theorem c_39 {h : am_H} {s p : Nat} {S : Int → Int → Int} {c : Int} {R : Int → Int} (hH : Hist h s S c) (hM : Mead h p R) (hd : p + 4 < s ∨ s + 71 < p) (hc : 0 < c) (iS : ∀ k, 0 ≤ k → k < c → S k 192 = 0 ∨ S k 192 = 1) : am_X 1 39 0 (am_ent 39 [.ref s, .ref p]) [] h (fun r h' => rV r ∧ Hist h' s S (c - 1) ∧ Mead h' p (S (c - 1)) ∧ fr (fun q => HiS s q ∨ MS p q) h h') := by
  show am_X 1 39 0 [.ref s, .ref p, am_u, am_u] [] h _
  obtain ⟨nx, M, f, o, e, ⟨oa, eA⟩, m, r⟩ := hH
  obtain ⟨ea, eb, ec, ed⟩ := id e
  have it : ∀ z : Int, z = (nx - 1) % 14 → M z.toNat 192 = 0 ∨ M z.toNat 192 = 1 := fun z hz => by
    have := iS (c - 1) (by omega) (by omega)
    rwa [r (c - 1) (by omega) (by omega), show ((nx - c + (c - 1)) % 14).toNat = z.toNat by omega] at this
  refine ax_aload_n f39_0 rfl ?_
  refine ax_getf f39_1 o rfl ?_
  refine ax_if_ne f39_4 rfl ⟨by omega, by omega⟩ (fun q4 => ?_) (fun q4 => ?_)
  · refine ax_aload_n f39_12 rfl ?_
    refine ax_getf f39_13 o rfl ?_
    refine ax_iconst f39_16 ?_
    refine ax_isub f39_17 ?_
    refine ax_istore_n (ls' := [_, _, _, _]) f39_18 (Nat.le_of_ble_eq_true rfl) rfl ?_
    refine ax_aload_n f39_19 rfl ?_
    refine ax_iload_n f39_20 rfl ?_
    refine ax_cvR (rest := []) f39_21 o rfl rfl rfl rfl rfl rfl rfl rfl (c_40 o oa eA (by omega) (by omega)) ?_
    intro _ e_
    obtain rfl := e_.symm
    clear e_
    refine ax_astore_n (ls' := [_, _, _, _]) f39_24 (Nat.le_of_ble_eq_true rfl) rfl ?_
    refine ax_aload_n f39_25 rfl ?_
    refine ax_getf f39_26 o rfl ?_
    refine ax_if_le f39_29 rfl ⟨by omega, by omega⟩ (fun q29 => absurd q29 (by omega)) (fun q29 => ?_)
    refine ax_aload_n f39_32 rfl ?_
    refine ax_ifnull f39_33 ?_
    refine ax_aload_n f39_36 rfl ?_
    refine ax_aload_n f39_37 rfl ?_
    refine ax_cvV (rest := []) f39_38 hM.1 rfl rfl rfl rfl rfl rfl rfl rfl (c_42 hM (m (nx - 1).toNat (by omega)) (by omega) (it _ (by omega))) ?_
    rintro h9 ⟨m9, f9⟩
    have o := f9.at (q := s) (by unfold MS; omega) o
    have oa := f9.at (q := s + 1) (by unfold MS; omega) oa
    have hm : ∀ i : Nat, i < 14 → Mead h9 (s + 2 + 5 * i) (M i) := fun i hi => (m i hi).fr f9 (fun q q1 q2 => by unfold MS; omega)
    refine ax_aload_n f39_41 rfl ?_
    refine ax_iload_n f39_42 rfl ?_
    refine ax_putfO f39_43 o rfl rfl rfl rfl (fun h2 o2 r2 => ?_)
    refine ax_aload_n f39_46 rfl ?_
    refine ax_dup f39_47 rfl ?_
    refine ax_getf f39_48 o2 rfl ?_
    refine ax_iconst f39_51 ?_
    refine ax_isub f39_52 ?_
    refine ax_putfO f39_53 o2 rfl rfl rfl rfl (fun h3 o3 r3 => ?_)
    refine ax_return f39_56 rfl ?_
    have eS : S (c - 1) = M (nx - 1).toNat := by
      rw [r (c - 1) (by omega) (by omega)]
      congr 1; omega
    refine ⟨rfl, ⟨nx - 1, M, f, o3, ⟨by omega, by omega, by omega, by omega⟩, ⟨r3.at (by omega) (r2.at (by omega) oa), eA⟩, ?_, ?_⟩, ?_, ?_⟩
    · intro j hj
      exact ((hm j hj).fr r2 (fun q q1 q2 => by omega)).fr r3 (fun q q1 q2 => by omega)
    · have := Rng_sub r ea eb hc ed
      rwa [if_neg (by omega)] at this
    · rw [eS]
      exact (m9.fr r2 (fun q q1 q2 => by omega)).fr r3 (fun q q1 q2 => by omega)
    · have F := f9.mono (T := fun q => HiS s q ∨ MS p q) (fun x e => Or.inr e)
      have F := F.trans (r2.mono (T := fun q => HiS s q ∨ MS p q) (fun x e => by unfold HiS; omega))
      exact F.trans (r3.mono (T := fun q => HiS s q ∨ MS p q) (fun x e => by unfold HiS; omega))
  · refine ax_bipush f39_7 ?_
    refine ax_goto f39_9 rfl ?_
    refine ax_istore_n (ls' := [_, _, _, _]) f39_18 (Nat.le_of_ble_eq_true rfl) rfl ?_
    refine ax_aload_n f39_19 rfl ?_
    refine ax_iload_n f39_20 rfl ?_
    refine ax_cvR (rest := []) f39_21 o rfl rfl rfl rfl rfl rfl rfl rfl (c_40 o oa eA (by omega) (by omega)) ?_
    intro _ e_
    obtain rfl := e_.symm
    clear e_
    refine ax_astore_n (ls' := [_, _, _, _]) f39_24 (Nat.le_of_ble_eq_true rfl) rfl ?_
    refine ax_aload_n f39_25 rfl ?_
    refine ax_getf f39_26 o rfl ?_
    refine ax_if_le f39_29 rfl ⟨by omega, by omega⟩ (fun q29 => absurd q29 (by omega)) (fun q29 => ?_)
    refine ax_aload_n f39_32 rfl ?_
    refine ax_ifnull f39_33 ?_
    refine ax_aload_n f39_36 rfl ?_
    refine ax_aload_n f39_37 rfl ?_
    refine ax_cvV (rest := []) f39_38 hM.1 rfl rfl rfl rfl rfl rfl rfl rfl (c_42 hM (m ((13 : Int)).toNat (by omega)) (by omega) (it _ (by omega))) ?_
    rintro h9 ⟨m9, f9⟩
    have o := f9.at (q := s) (by unfold MS; omega) o
    have oa := f9.at (q := s + 1) (by unfold MS; omega) oa
    have hm : ∀ i : Nat, i < 14 → Mead h9 (s + 2 + 5 * i) (M i) := fun i hi => (m i hi).fr f9 (fun q q1 q2 => by unfold MS; omega)
    refine ax_aload_n f39_41 rfl ?_
    refine ax_iload_n f39_42 rfl ?_
    refine ax_putfO f39_43 o rfl rfl rfl rfl (fun h2 o2 r2 => ?_)
    refine ax_aload_n f39_46 rfl ?_
    refine ax_dup f39_47 rfl ?_
    refine ax_getf f39_48 o2 rfl ?_
    refine ax_iconst f39_51 ?_
    refine ax_isub f39_52 ?_
    refine ax_putfO f39_53 o2 rfl rfl rfl rfl (fun h3 o3 r3 => ?_)
    refine ax_return f39_56 rfl ?_
    have eS : S (c - 1) = M ((13 : Int)).toNat := by
      rw [r (c - 1) (by omega) (by omega)]
      congr 1; omega
    refine ⟨rfl, ⟨(13 : Int), M, f, o3, ⟨by omega, by omega, by omega, by omega⟩, ⟨r3.at (by omega) (r2.at (by omega) oa), eA⟩, ?_, ?_⟩, ?_, ?_⟩
    · intro j hj
      exact ((hm j hj).fr r2 (fun q q1 q2 => by omega)).fr r3 (fun q q1 q2 => by omega)
    · have := Rng_sub r ea eb hc ed
      rwa [if_pos (by omega)] at this
    · rw [eS]
      exact (m9.fr r2 (fun q q1 q2 => by omega)).fr r3 (fun q q1 q2 => by omega)
    · have F := f9.mono (T := fun q => HiS s q ∨ MS p q) (fun x e => Or.inr e)
      have F := F.trans (r2.mono (T := fun q => HiS s q ∨ MS p q) (fun x e => by unfold HiS; omega))
      exact F.trans (r3.mono (T := fun q => HiS s q ∨ MS p q) (fun x e => by unfold HiS; omega))
def Slot (h : am_H) (s : Nat) (G : Nat → Int → Int) (b : Int → Int) : Prop :=
  ∃ f, h.1[s]? = some (.inr (6, [.ref (s + 1), .ref (s + 2)])) ∧ (h.1[s + 1]? = some (.inl (4, 2, .inr (.inr (.inr (.inr f))))) ∧ ∀ i : Nat, i < 2 → f i = some (s + 3 + 5 * i)) ∧ oA 2 h (s + 2) 2 b ∧ (∀ j, 0 ≤ j → j < 2 → b j = 0 ∨ b j = 1) ∧ ∀ i : Nat, i < 2 → Mead h (s + 3 + 5 * i) (G i)
def SlS (s q : Nat) : Prop := s ≤ q ∧ q ≤ s + 12
theorem Slot.mv {h h' : am_H} {s : Nat} {G : Nat → Int → Int} {b : Int → Int} {T : Nat → Prop} (a : Slot h s G b) (k : fr T h h') (hq : ∀ q, SlS s q → ¬ T q) : Slot h' s G b := by
  obtain ⟨f, o, ⟨oa, eA⟩, ob, eb, m⟩ := a
  exact ⟨f, k.at (hq _ (by unfold SlS; omega)) o, ⟨k.at (hq _ (by unfold SlS; omega)) oa, eA⟩, ob.fr k (hq _ (by unfold SlS; omega)), eb, fun i hi => (m i hi).fr k (fun q q1 q2 => hq q (by unfold SlS; omega))⟩
theorem lp_87 {d s : Nat} {h : am_H} {Q : am_R → am_H → Prop} (o : h.1[s]? = some (.inr (6, [.ref (s + 1), .ref (s + 2)]))) : ∀ (n : Nat) (z : Int), z + n = 2 → 0 ≤ z → ∀ b : Int → Int, oA 2 h (s + 2) 2 b → (∀ j, 0 ≤ j → j < z → b j = 0) → (∀ h', fr (fun q => q = s + 2) h h' → oA 2 h' (s + 2) 2 (fun _ => 0) → Q (.inl none) h') → am_X d 87 2 [.ref s, .int (iI z)] [] h Q
  | 0, z, h1, h2, b, ob, hb, k => by
    have h1 : z = 2 := by omega
    subst h1
    refine ax_iload_n f87_2 rfl ?_
    refine ax_iconst f87_3 ?_
    refine ax_icmp_ge f87_4 rfl ⟨by omega, by omega⟩ ⟨by omega, by omega⟩ (fun q4 => ?_) (fun q4 => absurd q4 (by omega))
    refine ax_return f87_20 rfl ?_
    exact k h fr_rf (ob.eq fun j j1 j2 => (hb j j1 (by omega)).symm)
  | n + 1, z, h1, h2, b, ob, hb, k => by
    refine ax_iload_n f87_2 rfl ?_
    refine ax_iconst f87_3 ?_
    refine ax_icmp_ge f87_4 rfl ⟨by omega, by omega⟩ ⟨by omega, by omega⟩ (fun q4 => absurd q4 (by omega)) (fun q4 => ?_)
    refine ax_aload_n f87_7 rfl ?_
    refine ax_getf f87_8 o rfl ?_
    refine ax_iload_n f87_11 rfl ?_
    refine ax_iconst f87_12 ?_
    refine ax_bastO f87_13 ob (by omega) (by omega) rfl (by omega) (fun h1 o1 r1 => ?_)
    refine ax_iinc (ls' := [_, _]) f87_14 rfl (Nat.le_of_ble_eq_true rfl) rfl ?_
    refine ax_goto f87_17 rfl ?_
    refine lp_87 (r1.at (by omega) o) n (z + 1) (by omega) (by omega) _ o1 ?_ ?_
    · intro j j1 j2
      unfold uZ
      split
      · rfl
      · exact hb j j1 (by omega)
    · intro h9 f9 a9
      exact k h9 (r1.trans f9) a9
theorem c_87 {h : am_H} {s : Nat} {G : Nat → Int → Int} {b : Int → Int} (hS : Slot h s G b)  : am_X 0 87 0 (am_ent 87 [.ref s]) [] h (fun r h' => rV r ∧ Slot h' s G (fun _ => 0) ∧ fr (SlS s) h h') := by
  show am_X 0 87 0 [.ref s, am_u] [] h _
  obtain ⟨f, o, ⟨oa, eA⟩, ob, eb, m⟩ := hS
  refine ax_iconst f87_0 ?_
  refine ax_istore_n (ls' := [_, _]) f87_1 (Nat.le_of_ble_eq_true rfl) rfl ?_
  refine lp_87 (d := 0) o 2 0 (by omega) (by omega) b ob (fun j j1 j2 => by omega) ?_
  intro h9 f9 a9
  exact ⟨rfl, ⟨f, f9.at (by omega) o, ⟨f9.at (by omega) oa, eA⟩, a9, fun _ _ _ => Or.inl rfl, fun i hi => (m i hi).fr f9 (fun q q1 q2 => by omega)⟩, f9.mono (fun q e => by unfold SlS; omega)⟩
def hld (b : Int → Int) (z : Int) : Int := if 0 ≤ z ∧ z < 2 then b z else 0
theorem c_88 {h : am_H} {s : Nat} {G : Nat → Int → Int} {b : Int → Int} (hS : Slot h s G b) {z : Int} (hz : inI z) : am_X 1 88 0 (am_ent 88 [.ref s, .int (iI z)]) [] h (fun r h' => rI r (hld b z) ∧ h' = h) := by
  show am_X 1 88 0 [.ref s, .int (iI z)] [] h _
  obtain ⟨f, o, ⟨oa, eA⟩, ob, eb, m⟩ := hS
  refine ax_iload_n f88_0 rfl ?_
  refine ax_csI (rest := []) f88_1 (Or.inr (Or.inl rfl)) rfl rfl rfl rfl rfl rfl (c_140 hz) ?_
  intro _ e_
  obtain rfl := e_.symm
  clear e_
  refine ax_if_eq f88_4 rfl b2i_inI (fun q4 => ?_) (fun q4 => ?_)
  · refine ax_iconst f88_20 ?_
    refine ax_ireturn f88_21 rfl rfl ?_
    exact ⟨rI_of (by unfold hld; rw [if_neg (b2i_z.mp q4)]), rfl⟩
  · have hz2 := b2i_nz.mp q4
    refine ax_aload_n f88_7 rfl ?_
    refine ax_getf f88_8 o rfl ?_
    refine ax_iload_n f88_11 rfl ?_
    have hbz := eb z hz2.1 hz2.2
    refine ax_baldO f88_12 ob (by omega) (by omega) rfl ?_
    refine ax_if_eq f88_13 rfl ⟨by omega, by omega⟩ (fun q13 => ?_) (fun q13 => ?_)
    · refine ax_iconst f88_20 ?_
      refine ax_ireturn f88_21 rfl rfl ?_
      exact ⟨rI_of (by unfold hld; rw [if_pos (b2i_nz.mp q4)]; omega), rfl⟩
    · refine ax_iconst f88_16 ?_
      refine ax_goto f88_17 rfl ?_
      refine ax_ireturn f88_21 rfl rfl ?_
      exact ⟨rI_of (by unfold hld; rw [if_pos (b2i_nz.mp q4)]; omega), rfl⟩
theorem c_89 {h : am_H} {s : Nat} {G : Nat → Int → Int} {b : Int → Int} {p : Nat} {R : Int → Int} (hS : Slot h s G b) (hM : Mead h p R) (hd : p + 4 < s ∨ s + 12 < p) (it : R 192 = 0 ∨ R 192 = 1) {z : Int} (h1 : 0 ≤ z) (h2 : z < 2) : am_X 1 89 0 (am_ent 89 [.ref s, .int (iI z), .ref p]) [] h (fun r h' => rV r ∧ Slot h' s (fun i => if i = z.toNat then R else G i) (uZ b z 1) ∧ fr (SlS s) h h') := by
  show am_X 1 89 0 [.ref s, .int (iI z), .ref p] [] h _
  obtain ⟨f, o, ⟨oa, eA⟩, ob, eb, m⟩ := hS
  refine ax_iload_n f89_0 rfl ?_
  refine ax_csI (rest := []) f89_1 (Or.inr (Or.inl rfl)) rfl rfl rfl rfl rfl rfl (c_140 ⟨by omega, by omega⟩) ?_
  intro _ e_
  obtain rfl := e_.symm
  clear e_
  rw [b2i_t ⟨h1, h2⟩]
  refine ax_if_eq f89_4 rfl ⟨by omega, by omega⟩ (fun q4 => absurd q4 (by omega)) (fun q4 => ?_)
  refine ax_aload_n f89_7 rfl ?_
  refine ax_getf f89_8 o rfl ?_
  refine ax_iload_n f89_11 rfl ?_
  refine ax_aald f89_12 oa h1 h2 (by decide) ?_
  rw [eA z.toNat (by omega)]
  refine ax_ifnull f89_13 ?_
  refine ax_aload_n f89_16 rfl ?_
  refine ax_getf f89_17 o rfl ?_
  refine ax_iload_n f89_20 rfl ?_
  refine ax_aald f89_21 oa h1 h2 (by decide) ?_
  rw [eA z.toNat (by omega)]
  refine ax_aload_n f89_22 rfl ?_
  refine ax_cvV (rest := []) f89_23 (m z.toNat (by omega)).1 rfl rfl rfl rfl rfl rfl rfl rfl (c_42 (m z.toNat (by omega)) hM (by omega) it) ?_
  rintro h9 ⟨m9, f9⟩
  have o := f9.at (q := s) (by unfold MS; omega) o
  have oa := f9.at (q := s + 1) (by unfold MS; omega) oa
  have ob := ob.fr f9 (by unfold MS; omega)
  have hm : ∀ i : Nat, i < 2 → i ≠ z.toNat → Mead h9 (s + 3 + 5 * i) (G i) := fun i hi hn => (m i hi).fr f9 (fun q q1 q2 => by unfold MS; omega)
  refine ax_aload_n f89_26 rfl ?_
  refine ax_getf f89_27 o rfl ?_
  refine ax_iload_n f89_30 rfl ?_
  refine ax_iconst f89_31 ?_
  refine ax_bastO f89_32 ob (by omega) (by omega) rfl (by omega) (fun h2 o2 r2 => ?_)
  refine ax_return f89_33 rfl ?_
  refine ⟨rfl, ⟨f, r2.at (by omega) o, ⟨r2.at (by omega) oa, eA⟩, o2, ?_, ?_⟩, ?_⟩
  · intro j j1 j2
    unfold uZ
    split
    · exact Or.inr rfl
    · exact eb j j1 j2
  · intro j hj
    dsimp only
    by_cases ej : j = z.toNat
    · rw [if_pos ej, ej]
      exact m9.fr r2 (fun q q1 q2 => by omega)
    · rw [if_neg ej]
      exact (hm j hj ej).fr r2 (fun q q1 q2 => by omega)
  · have F := f9.mono (T := SlS s) (fun x e => by unfold MS at e; unfold SlS; omega)
    exact F.trans (r2.mono (fun x e => by unfold SlS; omega))
theorem c_90 {h : am_H} {s : Nat} {G : Nat → Int → Int} {b : Int → Int} {p : Nat} {R : Int → Int} (hS : Slot h s G b) (hM : Mead h p R) (hd : p + 4 < s ∨ s + 12 < p) {z : Int} (h1 : 0 ≤ z) (h2 : z < 2) (h3 : b z = 1) (it : G z.toNat 192 = 0 ∨ G z.toNat 192 = 1) : am_X 2 90 0 (am_ent 90 [.ref s, .int (iI z), .ref p]) [] h (fun r h' => rV r ∧ Mead h' p (G z.toNat) ∧ fr (MS p) h h') := by
  show am_X 2 90 0 [.ref s, .int (iI z), .ref p] [] h _
  obtain ⟨f, o, ⟨oa, eA⟩, ob, eb, m⟩ := hS
  refine ax_aload_n f90_0 rfl ?_
  refine ax_iload_n f90_1 rfl ?_
  refine ax_cvI (rest := []) f90_2 o rfl rfl rfl rfl rfl rfl rfl rfl (c_88 ⟨f, o, ⟨oa, eA⟩, ob, eb, m⟩ ⟨by omega, by omega⟩) ?_
  intro _ e_
  obtain rfl := e_.symm
  clear e_
  rw [show hld b z = 1 by unfold hld; rw [if_pos ⟨h1, h2⟩]; exact h3]
  refine ax_if_eq f90_5 rfl ⟨by omega, by omega⟩ (fun q5 => absurd q5 (by omega)) (fun q5 => ?_)
  refine ax_aload_n f90_8 rfl ?_
  refine ax_getf f90_9 o rfl ?_
  refine ax_iload_n f90_12 rfl ?_
  refine ax_aald f90_13 oa h1 h2 (by decide) ?_
  rw [eA z.toNat (by omega)]
  refine ax_ifnull f90_14 ?_
  refine ax_aload_n f90_17 rfl ?_
  refine ax_aload_n f90_18 rfl ?_
  refine ax_getf f90_19 o rfl ?_
  refine ax_iload_n f90_22 rfl ?_
  refine ax_aald f90_23 oa h1 h2 (by decide) ?_
  rw [eA z.toNat (by omega)]
  refine ax_cvV (rest := []) f90_24 hM.1 rfl rfl rfl rfl rfl rfl rfl rfl (c_42 hM (m z.toNat (by omega)) (by omega) it) ?_
  rintro h9 ⟨m9, f9⟩
  refine ax_return f90_27 rfl ?_
  exact ⟨rfl, m9, f9⟩
end HIS
