/-! ===== the class as the law sees it ===== -/
section LCL
theorem Cls.gw {h h' : am_H} {s : St} {p n m : Nat} (a : Cls h s) (w : gw h h' p n m) (hp : 120 ≤ p) : Cls h' s := by
  obtain ⟨o, hH, ⟨R2, hH2⟩, hF, hS0, hP, hU, hHi, hSl, pos, le, fi, se, hT⟩ := a
  exact ⟨w.at (by omega) o, hH.gw w (by omega), ⟨R2, hH2.gw w (by omega)⟩, hF.gw w (by omega), hS0.gw w (by omega), hP.gw w (by omega), hU.gw w (by omega), hHi.gw w (by omega), hSl.gw w (by omega), pos, le, fi, se, hT.gw w (by omega)⟩
theorem okS_act {R R' : Int → Int} {S : Int → Int → Int} {c : Int} {G : Nat → Int → Int} {b : Int → Int} {T : Int → Int} {L : Int} (k : okS (R, S, c, G, b, T, L)) (i : inv R') : okS (R', rmS S c R, min (c + 1) 14, G, b, T, L) := by
  obtain ⟨k1, k2, k3, k4⟩ := k
  have k1 : inv R := k1
  have k2 : ∀ k, 0 ≤ k → k < c → inv (S k) := k2
  have k3 : 0 ≤ c ∧ c ≤ 14 := k3
  refine ⟨i, fun j j1 j2 => ?_, ?_, k4⟩
  · have j2 : j < min (c + 1) 14 := j2
    show inv (rmS S c R j)
    unfold rmS
    split
    · split
      · exact k1
      · exact k2 _ (by omega) (by omega)
    · split
      · exact k1
      · exact k2 _ j1 (by omega)
  · show 0 ≤ min (c + 1) 14 ∧ min (c + 1) 14 ≤ 14
    omega
/-- the class in a state whose meadow is R -/
def Lcl (h : am_H) (R : Int → Int) : Prop := ∃ (S : Int → Int → Int) (c : Int) (G : Nat → Int → Int) (b : Int → Int) (T : Int → Int) (L : Int), Cls h (R, S, c, G, b, T, L) ∧ okS (R, S, c, G, b, T, L)
theorem Lcl.i {h : am_H} {R : Int → Int} (a : Lcl h R) : inv R := by
  obtain ⟨S, c, G, b, T, L, cl, k⟩ := a
  exact k.1
theorem Lcl.o {h : am_H} {R : Int → Int} (a : Lcl h R) : h.1[0]? = some (.inr (9, Cfs)) := by
  obtain ⟨S, c, G, b, T, L, cl, k⟩ := a
  exact cl.1
theorem Lcl.gw {h h' : am_H} {R : Int → Int} {p n m : Nat} (a : Lcl h R) (w : gw h h' p n m) (hp : 120 ≤ p) : Lcl h' R := by
  obtain ⟨S, c, G, b, T, L, cl, k⟩ := a
  exact ⟨S, c, G, b, T, L, cl.gw w hp, k⟩
theorem Lcl.fr {h h' : am_H} {R : Int → Int} {S : Nat → Prop} (a : Lcl h R) (f : fr S h h') (hS : ∀ q, q < 120 → ¬ S q) : Lcl h' R := a.gw (gw_frS f hS) (Nat.le_refl _)
theorem Lcl.gx {h h' : am_H} {R : Int → Int} {S : Nat → Prop} {n m : Nat} (a : Lcl h R) (f : gx S h h' n m) (hl : 120 ≤ h.1.length) (hS : ∀ q, q < 120 → ¬ S q) : Lcl h' R := a.gw (gx_gw f hl hS) (Nat.le_refl _)
theorem u_111 {h : am_H} {R : Int → Int} (cl : Lcl h R) {z : Int} (h0 : 0 ≤ z ∧ z ≤ 10) : am_X 2 111 0 (am_ent 111 [.ref 0, .int (iI z)]) [] h (fun r h' => rI r (abt R z) ∧ (Lcl h' (R) ∧ fr (fun q => q < 120) h h')) := by
  obtain ⟨S, c, G, b, T, L, a, k⟩ := cl
  exact am_X_mono (k_111 a k h0) (Nat.le_refl _) (fun r h' q => ⟨q.1, ⟨_, _, _, _, _, _, q.2.1, k⟩, q.2.2⟩)
theorem u_112 {h : am_H} {R : Int → Int} (cl : Lcl h R) {r0 z : Int} (h0 : 0 ≤ r0 ∧ r0 < 48) (h1 : 0 ≤ z ∧ z ≤ 4) : am_X 2 112 0 (am_ent 112 [.ref 0, .int (iI r0), .int (iI z)]) [] h (fun r h' => rI r (rof R r0 z) ∧ (Lcl h' (R) ∧ fr (fun q => q < 120) h h')) := by
  obtain ⟨S, c, G, b, T, L, a, k⟩ := cl
  exact am_X_mono (k_112 a k h0 h1) (Nat.le_refl _) (fun r h' q => ⟨q.1, ⟨_, _, _, _, _, _, q.2.1, k⟩, q.2.2⟩)
theorem u_113 {h : am_H} {R : Int → Int} (cl : Lcl h R) {n z : Int} (h0 : 0 ≤ n ∧ n < blk R) (h1 : 0 ≤ z ∧ z ≤ 5) (h2 : ¬ (z = 5 ∧ R 192 = 0)) : am_X 4 113 0 (am_ent 113 [.ref 0, .int (iI n), .int (iI z)]) [] h (fun r h' => rI r (bof R n z) ∧ (Lcl h' (R) ∧ fr (fun q => q < 120) h h')) := by
  obtain ⟨S, c, G, b, T, L, a, k⟩ := cl
  exact am_X_mono (k_113 a k (by have b12 : blk R ≤ 12 := k.1.b12; exact ⟨by omega, by omega⟩) h0 h1 h2) (Nat.le_refl _) (fun r h' q => ⟨q.1, ⟨_, _, _, _, _, _, q.2.1, k⟩, q.2.2⟩)
theorem u_114 {h : am_H} {R : Int → Int} (cl : Lcl h R) {r0 v : Int} (h0 : 0 ≤ r0 ∧ r0 < 48) (h1 : 1 ≤ v ∧ v ≤ 99) : am_X 3 114 0 (am_ent 114 [.ref 0, .int (iI r0), .int (iI v)]) [] h (fun r h' => rI r (R r0) ∧ (Lcl h' (uZ R r0 v) ∧ fr (fun q => q < 120) h h')) := by
  obtain ⟨S, c, G, b, T, L, a, k⟩ := cl
  exact am_X_mono (k_114 a k ⟨by omega, by omega⟩ ⟨by omega, by omega⟩ h0 h1) (Nat.le_refl _) (fun r h' q => ⟨q.1, ⟨_, _, _, _, _, _, q.2.1, okS_act k (inv_wt k.1 h0.1 h0.2 h1.1 h1.2)⟩, q.2.2⟩)
theorem u_115 {h : am_H} {R : Int → Int} (cl : Lcl h R) {r0 y : Int} (h0 : 0 ≤ r0 ∧ r0 < 48) (hy : y = 0 ∨ y = 1) : am_X 3 115 0 (am_ent 115 [.ref 0, .int (iI r0), .int (iI y)]) [] h (fun r h' => rI r (sm (fun j => uZ R (48 + r0) y (48 + j)) 0 48) ∧ (Lcl h' (uZ R (48 + r0) y) ∧ fr (fun q => q < 120) h h')) := by
  obtain ⟨S, c, G, b, T, L, a, k⟩ := cl
  exact am_X_mono (k_115 a k ⟨by omega, by omega⟩ hy h0) (Nat.le_refl _) (fun r h' q => ⟨q.1, ⟨_, _, _, _, _, _, q.2.1, okS_act k (inv_aw k.1 h0.1 h0.2 hy)⟩, q.2.2⟩)
theorem u_116 {h : am_H} {R : Int → Int} (cl : Lcl h R) {r0 y : Int} (h0 : 1 ≤ r0 ∧ r0 < 48) (hy : y = 0 ∨ y = 1) (h1 : y = 0 ∨ R (144 + r0) = 1 ∨ blk R ≤ 11) : am_X 3 116 0 (am_ent 116 [.ref 0, .int (iI r0), .int (iI y)]) [] h (fun r h' => rI r (blk (sfe R r0 y)) ∧ (Lcl h' (sfe R r0 y) ∧ fr (fun q => q < 120) h h')) := by
  obtain ⟨S, c, G, b, T, L, a, k⟩ := cl
  exact am_X_mono (k_116 a k ⟨by omega, by omega⟩ hy h0 h1) (Nat.le_refl _) (fun r h' q => ⟨q.1, ⟨_, _, _, _, _, _, q.2.1, okS_act k (inv_fe k.1 h0.1 h0.2 hy h1)⟩, q.2.2⟩)
theorem u_117 {h : am_H} {R : Int → Int} (cl : Lcl h R) {n : Int} (h0 : 1 ≤ n ∧ n ≤ 11) : am_X 4 117 0 (am_ent 117 [.ref 0, .int (iI n)]) [] h (fun r h' => rI r (blk (spr R n)) ∧ (Lcl h' (spr R n) ∧ fr (fun q => q < 120) h h')) := by
  obtain ⟨S, c, G, b, T, L, a, k⟩ := cl
  exact am_X_mono (k_117 a k ⟨by omega, by omega⟩ h0) (Nat.le_refl _) (fun r h' q => ⟨q.1, ⟨_, _, _, _, _, _, q.2.1, okS_act k (inv_sp k.1 h0.1 h0.2)⟩, q.2.2⟩)
theorem u_118 {h : am_H} {R : Int → Int} (cl : Lcl h R) {n v : Int} (h0 : 0 ≤ n ∧ n < blk R) (h1 : -2 ≤ v ∧ v ≤ 2) : am_X 4 118 0 (am_ent 118 [.ref 0, .int (iI n), .int (iI v)]) [] h (fun r h' => rI r (R (205 + n)) ∧ (Lcl h' (uZ R (205 + n) v) ∧ fr (fun q => q < 120) h h')) := by
  obtain ⟨S, c, G, b, T, L, a, k⟩ := cl
  exact am_X_mono (k_118 a k (by have b12 : blk R ≤ 12 := k.1.b12; exact ⟨by omega, by omega⟩) ⟨by omega, by omega⟩ h0 h1) (Nat.le_refl _) (fun r h' q => ⟨q.1, ⟨_, _, _, _, _, _, q.2.1, okS_act k (inv_li k.1 h0.1 (by have b12 : blk R ≤ 12 := k.1.b12; omega) h1.1 h1.2)⟩, q.2.2⟩)
theorem u_119 {h : am_H} {R : Int → Int} (cl : Lcl h R)  : am_X 4 119 0 (am_ent 119 [.ref 0]) [] h (fun r h' => rI r (sm (fun j => tel R (193 + j)) 0 12) ∧ (Lcl h' (tel R) ∧ fr (fun q => q < 120) h h')) := by
  obtain ⟨S, c, G, b, T, L, a, k⟩ := cl
  exact am_X_mono (k_119 a k) (Nat.le_refl _) (fun r h' q => ⟨q.1, ⟨_, _, _, _, _, _, q.2.1, okS_act k (inv_te k.1)⟩, q.2.2⟩)
theorem u_120 {h : am_H} {R : Int → Int} (cl : Lcl h R) {z : Int} (h0 : 0 ≤ z ∧ z < 3) (h1 : R 192 = 1 ∨ R 269 = 0) : am_X 55 120 0 (am_ent 120 [.ref 0, .int (iI z)]) [] h (fun r h' => rI r ((sek R z).1) ∧ (Lcl h' (skd R z) ∧ fr (fun q => q < 120) h h')) := by
  obtain ⟨S, c, G, b, T, L, a, k⟩ := cl
  exact am_X_mono (k_120 a k ⟨by omega, by omega⟩ h0 h1) (Nat.le_refl _) (fun r h' q => ⟨q.1, ⟨_, _, _, _, _, _, q.2.1, okS_act k (inv_sk k.1 z)⟩, q.2.2⟩)
theorem u_121 {h : am_H} {R : Int → Int} (cl : Lcl h R) {v : Int} (h0 : 0 ≤ v ∧ v ≤ 1) : am_X 3 121 0 (am_ent 121 [.ref 0, .int (iI v)]) [] h (fun r h' => rI r (R 269) ∧ (Lcl h' (uZ R 269 v) ∧ fr (fun q => q < 120) h h')) := by
  obtain ⟨S, c, G, b, T, L, a, k⟩ := cl
  exact am_X_mono (k_121 a k h0) (Nat.le_refl _) (fun r h' q => ⟨q.1, ⟨_, _, _, _, _, _, q.2.1, okS_act k (inv_tr k.1 (by omega))⟩, q.2.2⟩)
theorem u_123 {h : am_H} {R : Int → Int} (cl : Lcl h R) {w0 q0 : Int} (h0 : 0 ≤ w0 ∧ w0 < 3) (h1 : 0 ≤ q0 ∧ q0 ≤ 3) (h2 : R 192 = 1 ∨ R 269 = 0) : am_X 54 123 0 (am_ent 123 [.ref 0, .int (iI w0), .int (iI q0)]) [] h (fun r h' => rI r (isg R w0 q0) ∧ (Lcl h' (R) ∧ fr (fun q => q < 120) h h')) := by
  obtain ⟨S, c, G, b, T, L, a, k⟩ := cl
  exact am_X_mono (k_123 a k ⟨by omega, by omega⟩ h0 h1 h2) (Nat.le_refl _) (fun r h' q => ⟨q.1, ⟨_, _, _, _, _, _, q.2.1, k⟩, q.2.2⟩)
theorem u_125 {h : am_H} {R : Int → Int} (cl : Lcl h R) {n w0 q0 : Int} (h0 : 0 ≤ n ∧ n < blk R) (h1 : 0 ≤ w0 ∧ w0 < 3) (h2 : 0 ≤ q0 ∧ q0 ≤ 1) : am_X 6 125 0 (am_ent 125 [.ref 0, .int (iI n), .int (iI w0), .int (iI q0)]) [] h (fun r h' => rI r (if q0 = 0 then (lkb R w0 n).1 else (lkb R w0 n).2) ∧ (Lcl h' (R) ∧ fr (fun q => q < 120) h h')) := by
  obtain ⟨S, c, G, b, T, L, a, k⟩ := cl
  exact am_X_mono (k_125 a k (by have b12 : blk R ≤ 12 := k.1.b12; exact ⟨by omega, by omega⟩) ⟨by omega, by omega⟩ h0 h1 h2) (Nat.le_refl _) (fun r h' q => ⟨q.1, ⟨_, _, _, _, _, _, q.2.1, k⟩, q.2.2⟩)
theorem u_126 {h : am_H} {R : Int → Int} (cl : Lcl h R) {n : Int} (h0 : 0 ≤ n ∧ n < blk R) : am_X 6 126 0 (am_ent 126 [.ref 0, .int (iI n)]) [] h (fun r h' => rI r (lc (vl R 2) 48 (fro R n) (fro R (n + 1))) ∧ (Lcl h' (R) ∧ fr (fun q => q < 120) h h')) := by
  obtain ⟨S, c, G, b, T, L, a, k⟩ := cl
  exact am_X_mono (k_126 a k (by have b12 : blk R ≤ 12 := k.1.b12; exact ⟨by omega, by omega⟩) h0) (Nat.le_refl _) (fun r h' q => ⟨q.1, ⟨_, _, _, _, _, _, q.2.1, k⟩, q.2.2⟩)
theorem u_127 {h : am_H} {R : Int → Int} (cl : Lcl h R) {n : Int} (h0 : 1 ≤ n ∧ n ≤ 11) : am_X 4 127 0 (am_ent 127 [.ref 0, .int (iI n)]) [] h (fun r h' => rI r (bal R n) ∧ (Lcl h' (R) ∧ fr (fun q => q < 120) h h')) := by
  obtain ⟨S, c, G, b, T, L, a, k⟩ := cl
  exact am_X_mono (k_127 a k ⟨by omega, by omega⟩ h0) (Nat.le_refl _) (fun r h' q => ⟨q.1, ⟨_, _, _, _, _, _, q.2.1, k⟩, q.2.2⟩)
theorem u_128 {h : am_H} {R : Int → Int} (cl : Lcl h R) {n : Int} (h0 : 0 ≤ n ∧ n < blk R) (h1 : ¬ R 192 = 0) : am_X 4 128 0 (am_ent 128 [.ref 0, .int (iI n)]) [] h (fun r h' => rI r (csm R (fro R n) (fro R (n + 1)) (R (193 + n))) ∧ (Lcl h' (R) ∧ fr (fun q => q < 120) h h')) := by
  obtain ⟨S, c, G, b, T, L, a, k⟩ := cl
  exact am_X_mono (k_128 a k (by have b12 : blk R ≤ 12 := k.1.b12; exact ⟨by omega, by omega⟩) h0 h1) (Nat.le_refl _) (fun r h' q => ⟨q.1, ⟨_, _, _, _, _, _, q.2.1, k⟩, q.2.2⟩)
theorem u_124 {h : am_H} {R : Int → Int} (cl : Lcl h R) : am_X 54 124 0 (am_ent 124 [.ref 0]) [] h (fun r h' => rI r (bwy R) ∧ (Lcl h' R ∧ fr (fun q => q < 120) h h')) := by
  obtain ⟨S, c, G, b, T, L, a, k⟩ := cl
  by_cases h0 : R 192 = 1 ∨ R 269 = 0
  · exact am_X_mono (k_124_y a k h0) (Nat.le_refl _) (fun r h' q => ⟨q.1, ⟨_, _, _, _, _, _, q.2.1, k⟩, q.2.2⟩)
  · exact am_X_mono (k_124_n a k h0) (Nat.le_refl _) (fun r h' q => ⟨q.1, ⟨_, _, _, _, _, _, q.2.1, k⟩, q.2.2⟩)
theorem u_129 {h : am_H} {R : Int → Int} (cl : Lcl h R) : am_X 3 129 0 (am_ent 129 [.ref 0]) [] h (fun r h' => rI r (far R) ∧ (Lcl h' R ∧ fr (fun q => q < 120) h h')) := by
  obtain ⟨S, c, G, b, T, L, a, k⟩ := cl
  by_cases h0 : R 192 = 1
  · exact am_X_mono (k_129_y a k h0) (Nat.le_refl _) (fun r h' q => ⟨q.1, ⟨_, _, _, _, _, _, q.2.1, k⟩, q.2.2⟩)
  · exact am_X_mono (k_129_n a k h0) (Nat.le_refl _) (fun r h' q => ⟨q.1, ⟨_, _, _, _, _, _, q.2.1, k⟩, q.2.2⟩)
end LCL
