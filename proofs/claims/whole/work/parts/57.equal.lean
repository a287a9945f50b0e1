/-! ===== each call: class and reference answer alike ===== -/
section EQC
theorem okS_act {R R' : Int → Int} {S : Int → Int → Int} {c : Int} {G : Nat → Int → Int} {b : Int → Int} {T : Int → Int} {L : Int} (k : okS (R, S, c, G, b, T, L)) (i : inv R') : okS (R', rmS S c R, min (c + 1) 14, G, b, T, L) := by
  obtain ⟨k1, k2, k3, k4⟩ := k
  have k1 : inv R := k1
  have k2 : ∀ k, 0 ≤ k → k < c → inv (S k) := k2
  have k3 : 0 ≤ c ∧ c ≤ 14 := k3
  refine ⟨i, fun j j1 j2 => ?_, ?_, k4⟩
  · have j2 : j < min (c + 1) 14 := j2
    show inv (rmS S c R j)
    unfold rmS
    split
    · split
      · exact k1
      · exact k2 _ (by omega) (by omega)
    · split
      · exact k1
      · exact k2 _ j1 (by omega)
  · show 0 ≤ min (c + 1) 14 ∧ min (c + 1) 14 ≤ 14
    omega
theorem ldr_inv {T : Int → Int} {L : Int} : ∀ (n : Nat) (p lo : Int) {R : Int → Int}, inv R → inv (ldr T L n p lo R).2
  | 0, _, _, R, i => i
  | n + 1, p, lo, R, i => by
    unfold ldr
    split
    · exact ldr_inv n _ _ (cmd_inv i _ _ _)
    · exact i
/-- a call of one of the law's methods m, and one of the reference's y, in state s: class and reference end alike -/
def ecW (m y : Nat) (as : List Value) (s : St) : Prop := ∃ kd v s', okS s' ∧ (0 ≤ kd ∧ kd ≤ 3) ∧ (∀ {h : am_H} {g : Int → Int64}, Cls h s → oL h 133 1 g → am_X 60 m 0 (am_ent m (.ref 0 :: (as ++ [.ref 133]))) [] h (Wout h kd v s')) ∧ (∀ {h : am_H} {th : Int}, Mdl h s th → ∃ v', (kd = 0 → v' = v) ∧ am_X 60 y 0 (am_ent y (.ref 120 :: as)) [] h (Mot h v' kd s'))
theorem ecW_ok {m y dm : Nat} {as : List Value} {s s' : St} {v : Int} (k : okS s') (w : ∀ {h : am_H} {g : Int → Int64}, Cls h s → oL h 133 1 g → am_X 60 m 0 (am_ent m (.ref 0 :: (as ++ [.ref 133]))) [] h (Wout h 0 v s')) (mm : ∀ {h : am_H} {th : Int}, Mdl h s th → am_X dm y 0 (am_ent y (.ref 120 :: as)) [] h (Mot h v 0 s')) (hd : Nat.ble dm 60 = true) : ecW m y as s :=
  ⟨0, v, s', k, by decide, w, fun a => ⟨v, fun _ => rfl, am_X_mono (mm a) (Nat.le_of_ble_eq_true hd) fun _ _ q => q⟩⟩
theorem ecW_ex {m y dm : Nat} {as : List Value} {s : St} {kd : Int} (k : okS s) (hk : 0 ≤ kd ∧ kd ≤ 3) (w : ∀ {h : am_H} {g : Int → Int64}, Cls h s → oL h 133 1 g → am_X 60 m 0 (am_ent m (.ref 0 :: (as ++ [.ref 133]))) [] h (Wout h kd 0 s)) (mm : ∀ {h : am_H} {th : Int}, Mdl h s th → am_X dm y 0 (am_ent y (.ref 120 :: as)) [] h (Mot h 0 kd s)) (hd : Nat.ble dm 60 = true) : ecW m y as s :=
  ⟨kd, 0, s, k, hk, w, fun a => ⟨0, fun _ => rfl, am_X_mono (mm a) (Nat.le_of_ble_eq_true hd) fun _ _ q => q⟩⟩
/-- a call without arguments that throws nothing -/
def ecD (y y' : Nat) (s : St) : Prop := ∃ v s', okS s' ∧ inI v ∧ (∀ {h : am_H}, Cls h s → am_X 60 y 0 (am_ent y [.ref 0]) [] h (fun r h' => rI r v ∧ (Cls h' s' ∧ fr FC h h'))) ∧ (∀ {h : am_H} {th : Int}, Mdl h s th → am_X 60 y' 0 (am_ent y' [.ref 120]) [] h (fun r h' => rI r v ∧ (Mdl h' s' 0 ∧ fr (fun x => 120 ≤ x ∧ x ≤ 132) h h')))
theorem ecD_ok {y y' dc dm : Nat} {s s' : St} {v : Int} (k : okS s') (w : ∀ {h : am_H}, Cls h s → am_X dc y 0 (am_ent y [.ref 0]) [] h (Cout h v s')) (mm : ∀ {h : am_H} {th : Int}, Mdl h s th → am_X dm y' 0 (am_ent y' [.ref 120]) [] h (Mot h v 0 s')) (hc : Nat.ble dc 60 = true) (hd : Nat.ble dm 60 = true) : ecD y y' s := by
  have e : ∀ {r : am_R}, rI r v → rI r (wr v) := fun {r} q => by unfold rI at q ⊢; rw [iI_wr]; exact q
  exact ⟨wr v, s', k, wr_in v, fun a => am_X_mono (w a) (Nat.le_of_ble_eq_true hc) fun _ _ q => ⟨e q.1, q.2.1, q.2.2⟩, fun a => am_X_mono (mm a) (Nat.le_of_ble_eq_true hd) fun _ _ q => ⟨e q.1, q.2.1, q.2.2⟩⟩
theorem e_1 {R : Int → Int} {S : Int → Int → Int} {c : Int} {G : Nat → Int → Int} {b : Int → Int} {T : Int → Int} {L : Int} (k : okS (R, S, c, G, b, T, L)) {z : Int} (hz : inI z) : ecW 1 182 [.int (iI z)] (R, S, c, G, b, T, L) := by
  have hL : 0 ≤ L ∧ L ≤ 120 := k.2.2.2.2.2.1
  have hT : ∀ j, 0 ≤ j → j < L → 0 ≤ T j ∧ T j ≤ 255 := k.2.2.2.2.2.2
  by_cases h0 : 0 ≤ z ∧ z ≤ 255
  · by_cases h1 : L < 120
    · have ok : okS (R, S, c, G, b, uZ T L z, L + 1) := ⟨k.1, k.2.1, k.2.2.1, k.2.2.2.1, k.2.2.2.2.1, (show 0 ≤ L + 1 ∧ L + 1 ≤ 120 by omega), fun j j1 (j2 : j < L + 1) => by
        show 0 ≤ uZ T L z j ∧ uZ T L z j ≤ 255
        unfold uZ
        split
        · exact h0
        · exact hT j j1 (by omega)⟩
      exact ecW_ok (ok) (fun a ol => w_1 a.1 ol (k_107 a k h0 h1) rfl) (fun a => m_182 a k h0 h1) rfl
    · have h1 : L = 120 := by omega
      exact ecW_ex k (by decide) (fun a ol => w_1_2 a.1 ol (k_107_2 a k h0 h1) rfl) (fun a => m_182_2 a k h0 h1) rfl
  · exact ecW_ex k (by decide) (fun a ol => w_1_1 a.1 ol (k_107_1 a k hz h0) rfl) (fun a => m_182_1 a k hz h0) rfl
theorem e_2 {R : Int → Int} {S : Int → Int → Int} {c : Int} {G : Nat → Int → Int} {b : Int → Int} {T : Int → Int} {L : Int} (k : okS (R, S, c, G, b, T, L))  : ecW 2 193 [] (R, S, c, G, b, T, L) := by
  by_cases h0 : errP T L = -1
  · have ok : okS ((ldr T L 120 1 0 beg).2, S, 0, G, fun _ => 0, T, L) := ⟨ldr_inv 120 1 0 inv_beg, fun j (j1 : 0 ≤ j) (j2 : j < 0) => by omega, (show (0 : Int) ≤ 0 ∧ (0 : Int) ≤ 14 by decide), fun i hi (z : (0 : Int) = 1) => absurd z (by decide), fun _ _ _ => Or.inl rfl, k.2.2.2.2.2⟩
    exact ecW_ok (ok) (fun a ol => w_2 a.1 ol (k_110 a k h0) rfl) (fun a => m_193 a k h0) rfl
  · exact ecW_ex k (by decide) (fun a ol => w_2_1 a.1 ol (k_110_1 a k h0) rfl) (fun a => m_193_1 a k h0) rfl
theorem e_3 {R : Int → Int} {S : Int → Int → Int} {c : Int} {G : Nat → Int → Int} {b : Int → Int} {T : Int → Int} {L : Int} (k : okS (R, S, c, G, b, T, L)) {z : Int} (hz : inI z) : ecW 3 195 [.int (iI z)] (R, S, c, G, b, T, L) := by
  by_cases h0 : 0 ≤ z ∧ z ≤ 10
  · exact ecW_ok (k) (fun a ol => w_3 a.1 ol (k_111 a k h0) rfl) (fun a => m_195 a k h0) rfl
  · exact ecW_ex k (by decide) (fun a ol => w_3_1 a.1 ol (k_111_1 a k hz h0) rfl) (fun a => m_195_1 a k hz h0) rfl
theorem e_4 {R : Int → Int} {S : Int → Int → Int} {c : Int} {G : Nat → Int → Int} {b : Int → Int} {T : Int → Int} {L : Int} (k : okS (R, S, c, G, b, T, L)) {r0 z : Int} (hr : inI r0) (hz : inI z) : ecW 4 197 [.int (iI r0), .int (iI z)] (R, S, c, G, b, T, L) := by
  by_cases h0 : 0 ≤ r0 ∧ r0 < 48
  · by_cases h1 : 0 ≤ z ∧ z ≤ 4
    · exact ecW_ok (k) (fun a ol => w_4 a.1 ol (k_112 a k h0 h1) rfl) (fun a => m_197 a k h0 h1) rfl
    · exact ecW_ex k (by decide) (fun a ol => w_4_2 a.1 ol (k_112_2 a k h0 hz h1) rfl) (fun a => m_197_2 a k h0 hz h1) rfl
  · exact ecW_ex k (by decide) (fun a ol => w_4_1 a.1 ol (k_112_1 a k hr h0) rfl) (fun a => m_197_1 a k hr h0) rfl
theorem e_5 {R : Int → Int} {S : Int → Int → Int} {c : Int} {G : Nat → Int → Int} {b : Int → Int} {T : Int → Int} {L : Int} (k : okS (R, S, c, G, b, T, L)) {n z : Int} (hn : inI n) (hz : inI z) : ecW 5 199 [.int (iI n), .int (iI z)] (R, S, c, G, b, T, L) := by
  by_cases h0 : 0 ≤ n ∧ n < blk R
  · by_cases h1 : 0 ≤ z ∧ z ≤ 5
    · by_cases h2 : z = 5 ∧ R 192 = 0
      · obtain ⟨rfl, h2⟩ := h2
        exact ecW_ex k (by decide) (fun a ol => w_5_3 a.1 ol (k_113_3 a k hn h0 h2) rfl) (fun a => m_199_3 a k hn h0 h2) rfl
      · exact ecW_ok (k) (fun a ol => w_5 a.1 ol (k_113 a k hn h0 h1 h2) rfl) (fun a => m_199 a k hn h0 h1 h2) rfl
    · exact ecW_ex k (by decide) (fun a ol => w_5_2 a.1 ol (k_113_2 a k hn h0 hz h1) rfl) (fun a => m_199_2 a k hn h0 hz h1) rfl
  · exact ecW_ex k (by decide) (fun a ol => w_5_1 a.1 ol (k_113_1 a k hn h0) rfl) (fun a => m_199_1 a k hn h0) rfl
theorem e_6 {R : Int → Int} {S : Int → Int → Int} {c : Int} {G : Nat → Int → Int} {b : Int → Int} {T : Int → Int} {L : Int} (k : okS (R, S, c, G, b, T, L)) {r0 v : Int} (hr : inI r0) (hv : inI v) : ecW 6 200 [.int (iI r0), .int (iI v)] (R, S, c, G, b, T, L) := by
  by_cases h0 : 0 ≤ r0 ∧ r0 < 48
  · by_cases h1 : 1 ≤ v ∧ v ≤ 99
    · exact ecW_ok (okS_act k (inv_wt k.1 h0.1 h0.2 h1.1 h1.2)) (fun a ol => w_6 a.1 ol (k_114 a k hr hv h0 h1) rfl) (fun a => m_200 a k hr hv h0 h1) rfl
    · exact ecW_ex k (by decide) (fun a ol => w_6_2 a.1 ol (k_114_2 a k hr hv h0 h1) rfl) (fun a => m_200_2 a k hr hv h0 h1) rfl
  · exact ecW_ex k (by decide) (fun a ol => w_6_1 a.1 ol (k_114_1 a k hr h0) rfl) (fun a => m_200_1 a k hr h0) rfl
theorem e_7 {R : Int → Int} {S : Int → Int → Int} {c : Int} {G : Nat → Int → Int} {b : Int → Int} {T : Int → Int} {L : Int} (k : okS (R, S, c, G, b, T, L)) {r0 y : Int} (hr : inI r0) (hy : y = 0 ∨ y = 1) : ecW 7 201 [.int (iI r0), .int (iI y)] (R, S, c, G, b, T, L) := by
  by_cases h0 : 0 ≤ r0 ∧ r0 < 48
  · exact ecW_ok (okS_act k (inv_aw k.1 h0.1 h0.2 hy)) (fun a ol => w_7 a.1 ol (k_115 a k hr hy h0) rfl) (fun a => m_201 a k hr hy h0) rfl
  · exact ecW_ex k (by decide) (fun a ol => w_7_1 a.1 ol (k_115_1 a k hr h0) rfl) (fun a => m_201_1 a k hr h0) rfl
theorem e_8 {R : Int → Int} {S : Int → Int → Int} {c : Int} {G : Nat → Int → Int} {b : Int → Int} {T : Int → Int} {L : Int} (k : okS (R, S, c, G, b, T, L)) {r0 y : Int} (hr : inI r0) (hy : y = 0 ∨ y = 1) : ecW 8 202 [.int (iI r0), .int (iI y)] (R, S, c, G, b, T, L) := by
  by_cases h0 : 1 ≤ r0 ∧ r0 < 48
  · by_cases h1 : y = 0 ∨ R (144 + r0) = 1 ∨ blk R ≤ 11
    · exact ecW_ok (okS_act k (inv_fe k.1 h0.1 h0.2 hy h1)) (fun a ol => w_8 a.1 ol (k_116 a k hr hy h0 h1) rfl) (fun a => m_202 a k hr hy h0 h1) rfl
    · exact ecW_ex k (by decide) (fun a ol => w_8_2 a.1 ol (k_116_2 a k hr hy h0 h1) rfl) (fun a => m_202_2 a k hr hy h0 h1) rfl
  · exact ecW_ex k (by decide) (fun a ol => w_8_1 a.1 ol (k_116_1 a k hr h0) rfl) (fun a => m_202_1 a k hr h0) rfl
theorem e_9 {R : Int → Int} {S : Int → Int → Int} {c : Int} {G : Nat → Int → Int} {b : Int → Int} {T : Int → Int} {L : Int} (k : okS (R, S, c, G, b, T, L)) {n : Int} (hn : inI n) : ecW 9 203 [.int (iI n)] (R, S, c, G, b, T, L) := by
  by_cases h0 : 1 ≤ n ∧ n ≤ 11
  · exact ecW_ok (okS_act k (inv_sp k.1 h0.1 h0.2)) (fun a ol => w_9 a.1 ol (k_117 a k hn h0) rfl) (fun a => m_203 a k hn h0) rfl
  · exact ecW_ex k (by decide) (fun a ol => w_9_1 a.1 ol (k_117_1 a k hn h0) rfl) (fun a => m_203_1 a k hn h0) rfl
theorem e_10 {R : Int → Int} {S : Int → Int → Int} {c : Int} {G : Nat → Int → Int} {b : Int → Int} {T : Int → Int} {L : Int} (k : okS (R, S, c, G, b, T, L)) {n v : Int} (hn : inI n) (hv : inI v) : ecW 10 204 [.int (iI n), .int (iI v)] (R, S, c, G, b, T, L) := by
  have hb12 : blk R ≤ 12 := (show inv R from k.1).b12
  by_cases h0 : 0 ≤ n ∧ n < blk R
  · by_cases h1 : -2 ≤ v ∧ v ≤ 2
    · exact ecW_ok (okS_act k (inv_li k.1 h0.1 (by omega) h1.1 h1.2)) (fun a ol => w_10 a.1 ol (k_118 a k hn hv h0 h1) rfl) (fun a => m_204 a k hn hv h0 h1) rfl
    · exact ecW_ex k (by decide) (fun a ol => w_10_2 a.1 ol (k_118_2 a k hn hv h0 h1) rfl) (fun a => m_204_2 a k hn hv h0 h1) rfl
  · exact ecW_ex k (by decide) (fun a ol => w_10_1 a.1 ol (k_118_1 a k hn h0) rfl) (fun a => m_204_1 a k hn h0) rfl
theorem e_11 {R : Int → Int} {S : Int → Int → Int} {c : Int} {G : Nat → Int → Int} {b : Int → Int} {T : Int → Int} {L : Int} (k : okS (R, S, c, G, b, T, L)) {z : Int} (hz : inI z) : ecW 11 206 [.int (iI z)] (R, S, c, G, b, T, L) := by
  by_cases h0 : 0 ≤ z ∧ z < 3
  · by_cases h1 : R 192 = 1 ∨ R 269 = 0
    · exact ecW_ok (okS_act k (inv_sk k.1 z)) (fun a ol => w_11 a.1 ol (k_120 a k hz h0 h1) rfl) (fun a => m_206 a k hz h0 h1) rfl
    · exact ecW_ex k (by decide) (fun a ol => w_11_2 a.1 ol (k_120_2 a k hz h0 h1) rfl) (fun a => m_206_2 a k hz h0 h1) rfl
  · exact ecW_ex k (by decide) (fun a ol => w_11_1 a.1 ol (k_120_1 a k hz h0) rfl) (fun a => m_206_1 a k hz h0) rfl
theorem e_12 {R : Int → Int} {S : Int → Int → Int} {c : Int} {G : Nat → Int → Int} {b : Int → Int} {T : Int → Int} {L : Int} (k : okS (R, S, c, G, b, T, L)) {v : Int} (hv : inI v) : ecW 12 207 [.int (iI v)] (R, S, c, G, b, T, L) := by
  by_cases h0 : 0 ≤ v ∧ v ≤ 1
  · exact ecW_ok (okS_act k (inv_tr k.1 (by omega))) (fun a ol => w_12 a.1 ol (k_121 a k h0) rfl) (fun a => m_207 a k h0) rfl
  · exact ecW_ex k (by decide) (fun a ol => w_12_1 a.1 ol (k_121_1 a k hv h0) rfl) (fun a => m_207_1 a k hv h0) rfl
theorem e_13 {R : Int → Int} {S : Int → Int → Int} {c : Int} {G : Nat → Int → Int} {b : Int → Int} {T : Int → Int} {L : Int} (k : okS (R, S, c, G, b, T, L))  : ecW 13 208 [] (R, S, c, G, b, T, L) := by
  have hc : 0 ≤ c ∧ c ≤ 14 := k.2.2.1
  by_cases h0 : c = 0
  · exact ecW_ex k (by decide) (fun a ol => w_13_1 a.1 ol (k_122_1 a k h0) rfl) (fun a => m_208_1 a k h0) rfl
  · have h0 : 0 < c := by omega
    have k2 : ∀ j, 0 ≤ j → j < c → inv (S j) := k.2.1
    have ok : okS (S (c - 1), S, c - 1, G, b, T, L) := ⟨k2 (c - 1) (by omega) (by omega), fun j j1 (j2 : j < c - 1) => k2 j j1 (by omega), (show 0 ≤ c - 1 ∧ c - 1 ≤ 14 by omega), k.2.2.2⟩
    exact ecW_ok (ok) (fun a ol => w_13 a.1 ol (k_122 a k h0) rfl) (fun a => m_208 a k h0) rfl
theorem e_14 {R : Int → Int} {S : Int → Int → Int} {c : Int} {G : Nat → Int → Int} {b : Int → Int} {T : Int → Int} {L : Int} (k : okS (R, S, c, G, b, T, L)) {w0 q0 : Int} (hw : inI w0) (hq : inI q0) : ecW 14 210 [.int (iI w0), .int (iI q0)] (R, S, c, G, b, T, L) := by
  by_cases h0 : (0 ≤ w0 ∧ w0 < 3) ∧ (0 ≤ q0 ∧ q0 ≤ 3)
  · by_cases h2 : R 192 = 1 ∨ R 269 = 0
    · exact ecW_ok (k) (fun a ol => w_14 a.1 ol (k_123 a k hw h0.1 h0.2 h2) rfl) (fun a => m_210 a k hw h0.1 h0.2 h2) rfl
    · exact ecW_ex k (by decide) (fun a ol => w_14_2 a.1 ol (k_123_2 a k hw h0.1 h0.2 h2) rfl) (fun a => m_210_2 a k hw h0.1 h0.2 h2) rfl
  · exact ecW_ex k (by decide) (fun a ol => w_14_1 a.1 ol (k_123_1 a k hw hq h0) rfl) (fun a => m_210_1 a k hw hq h0) rfl
theorem e_15 {R : Int → Int} {S : Int → Int → Int} {c : Int} {G : Nat → Int → Int} {b : Int → Int} {T : Int → Int} {L : Int} (k : okS (R, S, c, G, b, T, L)) {n w0 q0 : Int} (hn : inI n) (hw : inI w0) (hq : inI q0) : ecW 15 214 [.int (iI n), .int (iI w0), .int (iI q0)] (R, S, c, G, b, T, L) := by
  by_cases h0 : 0 ≤ n ∧ n < blk R
  · by_cases h1 : (0 ≤ w0 ∧ w0 < 3) ∧ (0 ≤ q0 ∧ q0 ≤ 1)
    · exact ecW_ok (k) (fun a ol => w_15 a.1 ol (k_125 a k hn hw h0 h1.1 h1.2) rfl) (fun a => m_214 a k hn hw h0 h1.1 h1.2) rfl
    · exact ecW_ex k (by decide) (fun a ol => w_15_2 a.1 ol (k_125_2 a k hn hw hq h0 h1) rfl) (fun a => m_214_2 a k hn hw hq h0 h1) rfl
  · exact ecW_ex k (by decide) (fun a ol => w_15_1 a.1 ol (k_125_1 a k hn h0) rfl) (fun a => m_214_1 a k hn h0) rfl
theorem e_16 {R : Int → Int} {S : Int → Int → Int} {c : Int} {G : Nat → Int → Int} {b : Int → Int} {T : Int → Int} {L : Int} (k : okS (R, S, c, G, b, T, L)) {n : Int} (hn : inI n) : ecW 16 217 [.int (iI n)] (R, S, c, G, b, T, L) := by
  by_cases h0 : 0 ≤ n ∧ n < blk R
  · exact ecW_ok (k) (fun a ol => w_16 a.1 ol (k_126 a k hn h0) rfl) (fun a => m_217 a k hn h0) rfl
  · exact ecW_ex k (by decide) (fun a ol => w_16_1 a.1 ol (k_126_1 a k hn h0) rfl) (fun a => m_217_1 a k hn h0) rfl
theorem e_17 {R : Int → Int} {S : Int → Int → Int} {c : Int} {G : Nat → Int → Int} {b : Int → Int} {T : Int → Int} {L : Int} (k : okS (R, S, c, G, b, T, L)) {n : Int} (hn : inI n) : ecW 17 218 [.int (iI n)] (R, S, c, G, b, T, L) := by
  by_cases h0 : 1 ≤ n ∧ n ≤ 11
  · exact ecW_ok (k) (fun a ol => w_17 a.1 ol (k_127 a k hn h0) rfl) (fun a => m_218 a k hn h0) rfl
  · exact ecW_ex k (by decide) (fun a ol => w_17_1 a.1 ol (k_127_1 a k hn h0) rfl) (fun a => m_218_1 a k hn h0) rfl
theorem e_18 {R : Int → Int} {S : Int → Int → Int} {c : Int} {G : Nat → Int → Int} {b : Int → Int} {T : Int → Int} {L : Int} (k : okS (R, S, c, G, b, T, L)) {n : Int} (hn : inI n) : ecW 18 220 [.int (iI n)] (R, S, c, G, b, T, L) := by
  by_cases h0 : 0 ≤ n ∧ n < blk R
  · by_cases h1 : R 192 = 0
    · exact ecW_ex k (by decide) (fun a ol => w_18_2 a.1 ol (k_128_2 a k hn h0 h1) rfl) (fun a => m_220_2 a k hn h0 h1) rfl
    · exact ecW_ok (k) (fun a ol => w_18 a.1 ol (k_128 a k hn h0 h1) rfl) (fun a => m_220 a k hn h0 h1) rfl
  · exact ecW_ex k (by decide) (fun a ol => w_18_1 a.1 ol (k_128_1 a k hn h0) rfl) (fun a => m_220_1 a k hn h0) rfl
theorem e_19 {R : Int → Int} {S : Int → Int → Int} {c : Int} {G : Nat → Int → Int} {b : Int → Int} {T : Int → Int} {L : Int} (k : okS (R, S, c, G, b, T, L)) {n : Int} {x : Int64} (hn : inI n) : ecW 19 225 [.int (iI n), .long x] (R, S, c, G, b, T, L) := by
  by_cases h0 : 1 ≤ n ∧ n ≤ 3
  · by_cases h1 : 0 ≤ x.toInt ∧ x.toInt < ((100000 ^ n.toNat : Nat) : Int)
    · exact ecW_ok (k) (fun a ol => w_19 a.1 ol (k_130 a k h0 h1) rfl) (fun a => m_225 a k h0 h1) rfl
    · exact ecW_ex k (kd := 1) (by decide) (fun a ol => w_19_1 a.1 ol (k_130_2 a k h0 h1) rfl) (fun a => m_225_2 a k h0 h1) rfl
  · exact ecW_ex k (by decide) (fun a ol => w_19_1 a.1 ol (k_130_1 a k hn h0) rfl) (fun a => m_225_1 a k hn h0) rfl
theorem e_20 {R : Int → Int} {S : Int → Int → Int} {c : Int} {G : Nat → Int → Int} {b : Int → Int} {T : Int → Int} {L : Int} (k : okS (R, S, c, G, b, T, L)) {x : Int64} {m : Int} (hmm : inI m) : ecW 20 228 [.long x, .int (iI m)] (R, S, c, G, b, T, L) := by
  by_cases h0 : 1 ≤ m ∧ m ≤ 60
  · exact ecW_ok (k) (fun a ol => w_20 a.1 ol (k_131 a k h0) rfl) (fun a => m_228 a k h0) rfl
  · exact ecW_ex k (by decide) (fun a ol => w_20_1 a.1 ol (k_131_1 a k hmm h0) rfl) (fun a => m_228_1 a k hmm h0) rfl
theorem e_21 {R : Int → Int} {S : Int → Int → Int} {c : Int} {G : Nat → Int → Int} {b : Int → Int} {T : Int → Int} {L : Int} (k : okS (R, S, c, G, b, T, L)) {z : Int} (hz : inI z) : ecW 21 229 [.int (iI z)] (R, S, c, G, b, T, L) := by
  by_cases h0 : 0 ≤ z ∧ z < 2
  · have k4 : ∀ i : Nat, i < 2 → b i = 1 → inv (G i) := k.2.2.2.1
    have k5 : ∀ j, 0 ≤ j → j < 2 → b j = 0 ∨ b j = 1 := k.2.2.2.2.1
    have ok : okS (R, S, c, fun i => if i = z.toNat then R else G i, uZ b z 1, T, L) := ⟨k.1, k.2.1, k.2.2.1, fun i hi (q : uZ b z 1 i = 1) => by
      show inv (if i = z.toNat then R else G i)
      by_cases e : i = z.toNat
      · rw [if_pos e]; exact k.1
      · rw [if_neg e]
        rw [uZ_n (by omega)] at q
        exact k4 i hi q, fun j j1 j2 => by
      show uZ b z 1 j = 0 ∨ uZ b z 1 j = 1
      unfold uZ
      split
      · exact Or.inr rfl
      · exact k5 j j1 j2, k.2.2.2.2.2⟩
    exact ecW_ok (ok) (fun a ol => w_21 a.1 ol (k_132 a k hz h0) rfl) (fun a => m_229 a k hz h0) rfl
  · exact ecW_ex k (by decide) (fun a ol => w_21_1 a.1 ol (k_132_1 a k hz h0) rfl) (fun a => m_229_1 a k hz h0) rfl
theorem e_22 {R : Int → Int} {S : Int → Int → Int} {c : Int} {G : Nat → Int → Int} {b : Int → Int} {T : Int → Int} {L : Int} (k : okS (R, S, c, G, b, T, L)) {z : Int} (hz : inI z) : ecW 22 230 [.int (iI z)] (R, S, c, G, b, T, L) := by
  by_cases h0 : 0 ≤ z ∧ z < 2
  · by_cases h1 : b z = 1
    · have k4 : ∀ i : Nat, i < 2 → b i = 1 → inv (G i) := k.2.2.2.1
      have ok : okS (G z.toNat, S, 0, G, b, T, L) := ⟨k4 z.toNat (by omega) (by rw [Int.toNat_of_nonneg h0.1]; exact h1), fun j (j1 : 0 ≤ j) (j2 : j < 0) => by omega, (show (0 : Int) ≤ 0 ∧ (0 : Int) ≤ 14 by decide), k.2.2.2⟩
      exact ecW_ok (ok) (fun a ol => w_22 a.1 ol (k_133 a k hz h0 h1) rfl) (fun a => m_230 a k hz h0 h1) rfl
    · exact ecW_ex k (by decide) (fun a ol => w_22_2 a.1 ol (k_133_2 a k hz h0 h1) rfl) (fun a => m_230_2 a k hz h0 h1) rfl
  · exact ecW_ex k (by decide) (fun a ol => w_22_1 a.1 ol (k_133_1 a k hz h0) rfl) (fun a => m_230_1 a k hz h0) rfl
theorem d_1 {R : Int → Int} {S : Int → Int → Int} {c : Int} {G : Nat → Int → Int} {b : Int → Int} {T : Int → Int} {L : Int} (k : okS (R, S, c, G, b, T, L)) : ecD 108 183 (R, S, c, G, b, T, L) := by
  have ok : okS (R, S, c, G, b, T, 0) := ⟨k.1, k.2.1, k.2.2.1, k.2.2.2.1, k.2.2.2.2.1, (show (0 : Int) ≤ 0 ∧ (0 : Int) ≤ 120 by decide), fun j (j1 : 0 ≤ j) (j2 : j < 0) => by omega⟩
  exact ecD_ok ok (fun a => k_108 a k) (fun a => m_183 a k) rfl rfl
theorem d_2 {R : Int → Int} {S : Int → Int → Int} {c : Int} {G : Nat → Int → Int} {b : Int → Int} {T : Int → Int} {L : Int} (k : okS (R, S, c, G, b, T, L)) : ecD 109 191 (R, S, c, G, b, T, L) := by
  exact ecD_ok k (fun a => k_109 a k) (fun a => m_191 a k) rfl rfl
theorem d_12 {R : Int → Int} {S : Int → Int → Int} {c : Int} {G : Nat → Int → Int} {b : Int → Int} {T : Int → Int} {L : Int} (k : okS (R, S, c, G, b, T, L)) : ecD 119 205 (R, S, c, G, b, T, L) := by
  exact ecD_ok (okS_act k (inv_te k.1)) (fun a => k_119 a k) (fun a => m_205 a k) rfl rfl
theorem d_17 {R : Int → Int} {S : Int → Int → Int} {c : Int} {G : Nat → Int → Int} {b : Int → Int} {T : Int → Int} {L : Int} (k : okS (R, S, c, G, b, T, L)) : ecD 124 211 (R, S, c, G, b, T, L) := by
  by_cases h0 : R 192 = 1 ∨ R 269 = 0
  · exact ecD_ok k (fun a => k_124_y a k h0) (fun a => m_211_y a k h0) rfl rfl
  · exact ecD_ok k (fun a => k_124_n a k h0) (fun a => m_211_n a k h0) rfl rfl
theorem d_22 {R : Int → Int} {S : Int → Int → Int} {c : Int} {G : Nat → Int → Int} {b : Int → Int} {T : Int → Int} {L : Int} (k : okS (R, S, c, G, b, T, L)) : ecD 129 221 (R, S, c, G, b, T, L) := by
  by_cases h0 : R 192 = 1
  · exact ecD_ok k (fun a => k_129_y a k h0) (fun a => m_221_y a k h0) rfl rfl
  · exact ecD_ok k (fun a => k_129_n a k h0) (fun a => m_221_n a k h0) rfl rfl
end EQC
