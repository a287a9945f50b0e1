/-! ===== states remembered and saved: the class ===== -/
section HIS
/-- the states remembered, the oldest first: the meadows of the ring M, the next place nx, c of them -/
def Rng (S : Int → Int → Int) (c nx : Int) (M : Nat → Int → Int) : Prop := ∀ k : Int, 0 ≤ k → k < c → S k = M ((nx - c + k) % 14).toNat
def Hist (h : am_H) (s : Nat) (S : Int → Int → Int) (c : Int) : Prop :=
  ∃ nx M f, h.1[s]? = some (.inr (2, [.ref (s + 1), .int (iI nx), .int (iI c)])) ∧ (0 ≤ nx ∧ nx < 14 ∧ 0 ≤ c ∧ c ≤ 14) ∧ (h.1[s + 1]? = some (.inl (4, 14, .inr (.inr (.inr (.inr f))))) ∧ ∀ i : Nat, i < 14 → f i = some (s + 2 + 5 * i)) ∧ (∀ i : Nat, i < 14 → Mead h (s + 2 + 5 * i) (M i)) ∧ Rng S c nx M
def HiS (s q : Nat) : Prop := s ≤ q ∧ q ≤ s + 71
theorem Hist.mv {h h' : am_H} {s : Nat} {S : Int → Int → Int} {c : Int} {T : Nat → Prop} (a : Hist h s S c) (b : fr T h h') (hq : ∀ q, HiS s q → ¬ T q) : Hist h' s S c := by
  obtain ⟨nx, M, f, o, e, ⟨o2, e2⟩, m, r⟩ := a
  exact ⟨nx, M, f, b.at (hq _ (by unfold HiS; omega)) o, e, ⟨b.at (hq _ (by unfold HiS; omega)) o2, e2⟩, fun i hi => (m i hi).fr b (fun q q1 q2 => hq q (by unfold HiS; omega)), r⟩
/-- one state more is remembered -/
def rmS (S : Int → Int → Int) (c : Int) (R : Int → Int) (k : Int) : Int → Int := if c = 14 then (if k = 13 then R else S (k + 1)) else (if k = c then R else S k)
theorem Rng_add {S : Int → Int → Int} {c nx : Int} {M : Nat → Int → Int} {R : Int → Int} (h : Rng S c nx M) (h1 : 0 ≤ nx) (h2 : nx < 14) (h3 : 0 ≤ c) (h4 : c ≤ 14) : Rng (rmS S c R) (min (c + 1) 14) (if nx = 13 then 0 else nx + 1) (fun i => if i = nx.toNat then R else M i) := by
  intro k k1 k2
  unfold rmS
  dsimp only
  by_cases c1 : c = 14
  · rw [if_pos c1]
    by_cases k3 : k = 13
    · rw [if_pos k3, if_pos]
      split <;> omega
    · rw [if_neg k3, h (k + 1) (by omega) (by omega), if_neg]
      · congr 1
        split <;> omega
      · split <;> omega
  · rw [if_neg c1]
    by_cases k3 : k = c
    · rw [if_pos k3, if_pos]
      split <;> omega
    · rw [if_neg k3, h k (by omega) (by omega), if_neg]
      · congr 1
        split <;> omega
      · split <;> omega
theorem Rng_sub {S : Int → Int → Int} {c nx : Int} {M : Nat → Int → Int} (h : Rng S c nx M) (h1 : 0 ≤ nx) (h2 : nx < 14) (h3 : 0 < c) (h4 : c ≤ 14) : Rng S (c - 1) (if nx = 0 then 13 else nx - 1) M := by
  intro k k1 k2
  rw [h k k1 (by omega)]
  congr 1
  split <;> omega
theorem c_40 {h : am_H} {s : Nat} {x y : Value} {f : Nat → Option Nat} (o : h.1[s]? = some (.inr (2, [.ref (s + 1), x, y]))) (o2 : h.1[s + 1]? = some (.inl (4, 14, .inr (.inr (.inr (.inr f)))))) (e2 : ∀ i : Nat, i < 14 → f i = some (s + 2 + 5 * i)) {z : Int} (h1 : 0 ≤ z) (h2 : z < 14) : am_X 0 40 0 (am_ent 40 [.ref s, .int (iI z)]) [] h (fun r h' => rR r (s + 2 + 5 * z.toNat) ∧ h' = h) := by
  show am_X 0 40 0 [.ref s, .int (iI z)] [] h _
  refine ax_iload_n f40_0 rfl ?_
  refine ax_if_lt f40_1 rfl ⟨by omega, by omega⟩ (fun q1 => absurd q1 (by omega)) (fun q1 => ?_)
  refine ax_iload_n f40_4 rfl ?_
  refine ax_bipush f40_5 ?_
  refine ax_icmp_ge f40_7 rfl ⟨by omega, by omega⟩ ⟨by omega, by omega⟩ (fun q7 => absurd q7 (by omega)) (fun q7 => ?_)
  refine ax_aload_n f40_10 rfl ?_
  refine ax_getf f40_11 o rfl ?_
  refine ax_iload_n f40_14 rfl ?_
  refine ax_aald f40_15 o2 h1 h2 (by decide) ?_
  rw [e2 z.toNat (by omega)]
  refine ax_goto f40_16 rfl ?_
  refine ax_areturn f40_20 rfl ?_
  exact ⟨rfl, rfl⟩
theorem c_38 {h : am_H} {s p : Nat} {S : Int → Int → Int} {c : Int} {R : Int → Int} (hH : Hist h s S c) (hM : Mead h p R) (hd : p + 4 < s ∨ s + 71 < p) (i : R 192 = 0 ∨ R 192 = 1) : am_X 1 38 0 (am_ent 38 [.ref s, .ref p]) [] h (fun r h' => rV r ∧ Hist h' s (rmS S c R) (min (c + 1) 14) ∧ fr (HiS s) h h') := by
  show am_X 1 38 0 [.ref s, .ref p, am_u] [] h _
  obtain ⟨nx, M, f, o, e, ⟨oa, eA⟩, m, r⟩ := hH
  obtain ⟨ea, eb, ec, ed⟩ := id e
  refine ax_aload_n f38_0 rfl ?_
  refine ax_aload_n f38_1 rfl ?_
  refine ax_getf f38_2 o rfl ?_
  refine ax_cvR (rest := []) f38_5 o rfl rfl rfl rfl rfl rfl rfl rfl (c_40 o oa eA e.1 e.2.1) ?_
  intro _ e_
  obtain rfl := e_.symm
  clear e_
  refine ax_astore_n (ls' := [_, _, _]) f38_8 (Nat.le_of_ble_eq_true rfl) rfl ?_
  refine ax_aload_n f38_9 rfl ?_
  refine ax_ifnull f38_10 ?_
  refine ax_aload_n f38_13 rfl ?_
  refine ax_aload_n f38_14 rfl ?_
  refine ax_cvV (rest := []) f38_15 (m nx.toNat (by omega)).1 rfl rfl rfl rfl rfl rfl rfl rfl (c_42 (m nx.toNat (by omega)) hM (by omega) i) ?_
  rintro h9 ⟨m9, f9⟩
  have o := f9.at (q := s) (by unfold MS; omega) o
  have oa := f9.at (q := s + 1) (by unfold MS; omega) oa
  have hm : ∀ i : Nat, i < 14 → i ≠ nx.toNat → Mead h9 (s + 2 + 5 * i) (M i) := fun i hi hn => (m i hi).fr f9 (fun q q1 q2 => by unfold MS; omega)
  refine ax_aload_n f38_18 rfl ?_
  refine ax_aload_n f38_19 rfl ?_
  refine ax_getf f38_20 o rfl ?_
  refine ax_bipush f38_23 ?_
  refine ax_icmp_ne f38_25 rfl ⟨by omega, by omega⟩ ⟨by omega, by omega⟩ (fun q25 => ?_) (fun q25 => ?_)
  · refine ax_aload_n f38_32 rfl ?_
    refine ax_getf f38_33 o rfl ?_
    refine ax_iconst f38_36 ?_
    refine ax_iadd f38_37 ?_
    refine ax_putfO f38_38 o rfl rfl rfl rfl (fun h2 o2 r2 => ?_)
    refine ax_aload_n f38_41 rfl ?_
    refine ax_aload_n f38_42 rfl ?_
    refine ax_getf f38_43 o2 rfl ?_
    refine ax_iconst f38_46 ?_
    refine ax_iadd f38_47 ?_
    refine ax_bipush f38_48 ?_
    refine ax_min f38_50 (Nat.le_of_ble_eq_true rfl) ⟨by omega, by omega⟩ ⟨by omega, by omega⟩ ?_
    refine ax_putfO f38_53 o2 rfl rfl rfl rfl (fun h3 o3 r3 => ?_)
    refine ax_return f38_56 rfl ?_
    refine ⟨rfl, ⟨nx + 1, fun i => if i = nx.toNat then R else M i, f, o3, ⟨by omega, by omega, by omega, by omega⟩, ⟨r3.at (by omega) (r2.at (by omega) oa), eA⟩, ?_, ?_⟩, ?_⟩
    · intro j hj
      dsimp only
      by_cases ej : j = nx.toNat
      · rw [if_pos ej, ej]
        exact (m9.fr r2 (fun q q1 q2 => by omega)).fr r3 (fun q q1 q2 => by omega)
      · rw [if_neg ej]
        exact ((hm j hj ej).fr r2 (fun q q1 q2 => by omega)).fr r3 (fun q q1 q2 => by omega)
    · have := Rng_add (R := R) r e.1 e.2.1 e.2.2.1 e.2.2.2
      rwa [if_neg (by omega)] at this
    · have F := f9.mono (T := HiS s) (fun x e => by unfold MS at e; unfold HiS; omega)
      have F := F.trans (r2.mono (T := HiS s) (fun x e => by unfold HiS; omega))
      exact F.trans (r3.mono (T := HiS s) (fun x e => by unfold HiS; omega))
  · refine ax_iconst f38_28 ?_
    refine ax_goto f38_29 rfl ?_
    refine ax_putfO f38_38 o rfl rfl rfl rfl (fun h2 o2 r2 => ?_)
    refine ax_aload_n f38_41 rfl ?_
    refine ax_aload_n f38_42 rfl ?_
    refine ax_getf f38_43 o2 rfl ?_
    refine ax_iconst f38_46 ?_
    refine ax_iadd f38_47 ?_
    refine ax_bipush f38_48 ?_
    refine ax_min f38_50 (Nat.le_of_ble_eq_true rfl) ⟨by omega, by omega⟩ ⟨by omega, by omega⟩ ?_
    refine ax_putfO f38_53 o2 rfl rfl rfl rfl (fun h3 o3 r3 => ?_)
    refine ax_return f38_56 rfl ?_
    refine ⟨rfl, ⟨0, fun i => if i = nx.toNat then R else M i, f, o3, ⟨by omega, by omega, by omega, by omega⟩, ⟨r3.at (by omega) (r2.at (by omega) oa), eA⟩, ?_, ?_⟩, ?_⟩
    · intro j hj
      dsimp only
      by_cases ej : j = nx.toNat
      · rw [if_pos ej, ej]
        exact (m9.fr r2 (fun q q1 q2 => by omega)).fr r3 (fun q q1 q2 => by omega)
      · rw [if_neg ej]
        exact ((hm j hj ej).fr r2 (fun q q1 q2 => by omega)).fr r3 (fun q q1 q2 => by omega)
    · have := Rng_add (R := R) r e.1 e.2.1 e.2.2.1 e.2.2.2
      rwa [if_pos (by omega)] at this
    · have F := f9.mono (T := HiS s) (fun x e => by unfold MS at e; unfold HiS; omega)
      have F := F.trans (r2.mono (T := HiS s) (fun x e => by unfold HiS; omega))
      exact F.trans (r3.mono (T := HiS s) (fun x e => by unfold HiS; omega))
def Slot (h : am_H) (s : Nat) (G : Nat → Int → Int) (b : Int → Int) : Prop :=
  ∃ f, h.1[s]? = some (.inr (6, [.ref (s + 1), .ref (s + 2)])) ∧ (h.1[s + 1]? = some (.inl (4, 2, .inr (.inr (.inr (.inr f))))) ∧ ∀ i : Nat, i < 2 → f i = some (s + 3 + 5 * i)) ∧ oA 2 h (s + 2) 2 b ∧ (∀ j, 0 ≤ j → j < 2 → b j = 0 ∨ b j = 1) ∧ ∀ i : Nat, i < 2 → Mead h (s + 3 + 5 * i) (G i)
def SlS (s q : Nat) : Prop := s ≤ q ∧ q ≤ s + 12
theorem Slot.mv {h h' : am_H} {s : Nat} {G : Nat → Int → Int} {b : Int → Int} {T : Nat → Prop} (a : Slot h s G b) (k : fr T h h') (hq : ∀ q, SlS s q → ¬ T q) : Slot h' s G b := by
  obtain ⟨f, o, ⟨oa, eA⟩, ob, eb, m⟩ := a
  exact ⟨f, k.at (hq _ (by unfold SlS; omega)) o, ⟨k.at (hq _ (by unfold SlS; omega)) oa, eA⟩, ob.fr k (hq _ (by unfold SlS; omega)), eb, fun i hi => (m i hi).fr k (fun q q1 q2 => hq q (by unfold SlS; omega))⟩
def hld (b : Int → Int) (z : Int) : Int := if 0 ≤ z ∧ z < 2 then b z else 0
end HIS
