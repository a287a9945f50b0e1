/-! ===== the law: its loop, its start ===== -/
section LAX
theorem and31 (x : Int32) : ∃ w : Int, x &&& iI 31 = iI w ∧ 0 ≤ w ∧ w < 32 := by
  obtain ⟨n, hn, rfl⟩ := wb_of32 x
  have hm := Nat.mod_lt n (show 0 < 2 ^ 5 by decide)
  refine ⟨((n % 2 ^ 5 : Nat) : Int), ?_, by omega, by omega⟩
  rw [show iI 31 = nI (2 ^ 5 - 1) from rfl, fa_mask_, iI_nat]
theorem Cls.gw {h h' : am_H} {s : St} {p n m : Nat} (a : Cls h s) (w : gw h h' p n m) (hp : 120 ≤ p) : Cls h' s := by
  obtain ⟨o, hH, ⟨R2, hH2⟩, hF, hS0, hP, hU, hHi, hSl, pos, le, fi, se, hT⟩ := a
  exact ⟨w.at (by omega) o, hH.gw w (by omega), ⟨R2, hH2.gw w (by omega)⟩, hF.gw w (by omega), hS0.gw w (by omega), hP.gw w (by omega), hU.gw w (by omega), hHi.gw w (by omega), hSl.gw w (by omega), pos, le, fi, se, hT.gw w (by omega)⟩
theorem law_lp {L : Nat} {xs : Nat → Int32} (hL : L ≤ 2048) : ∀ (n : Nat) {h : am_H} {s : St} {th i : Int} {g : Int → Int64} {x5 x6 : Value} (k : okS s) (a : Cls h s) (b : Mdl h s th) (ol : oL h 133 1 g) (hs : h.2.2 = (L, xs)) (hi : 0 ≤ i) (hj : i ≤ 3000) (hn : (L : Int) < i + 4 + 4 * n) (n1 : h.2.1.1 + n ≤ 601024) (n2 : h.2.1.2 + 6 * n ≤ 7293034), am_X 100 0 23 [.retAddr 0, .ref 0, .ref 120, .ref 133, .int (iI i), x5, x6] [] h (fun r h' => r = .inl (some (.int 1)) ∧ h'.2.1.1 ≤ 601024 ∧ h'.2.1.2 ≤ 7293034)
  | 0, h, s, th, i, g, x5, x6, k, a, b, ol, hs, hi, hj, hn, n1, n2 => by
    refine ax_iload f0_23 rfl ?_
    refine ax_aload_nS f0_25 rfl ?_
    refine ax_slen f0_26 ?_
    rw [show h.2.2.1 = L by rw [hs]]
    refine ax_iconst f0_27 ?_
    refine ax_isub f0_28 ?_
    refine ax_icmp_gt f0_29 rfl ⟨by omega, by omega⟩ ⟨by omega, by omega⟩ (fun q => ?_) (fun q => absurd q (by omega))
    refine ax_iconst f0_1667 ?_
    refine ax_ireturn f0_1668 rfl rfl ?_
    exact ⟨rfl, by omega, by omega⟩
  | n + 1, h, s, th, i, g, x5, x6, k, a, b, ol, hs, hi, hj, hn, n1, n2 => by
    refine ax_iload f0_23 rfl ?_
    refine ax_aload_nS f0_25 rfl ?_
    refine ax_slen f0_26 ?_
    rw [show h.2.2.1 = L by rw [hs]]
    refine ax_iconst f0_27 ?_
    refine ax_isub f0_28 ?_
    refine ax_icmp_gt f0_29 rfl ⟨by omega, by omega⟩ ⟨by omega, by omega⟩ (fun q => ?_) (fun q => ?_)
    · refine ax_iconst f0_1667 ?_
      refine ax_ireturn f0_1668 rfl rfl ?_
      exact ⟨rfl, by omega, by omega⟩
    have K : LK L xs i h.2.1.1 h.2.1.2 (fun r h' => r = .inl (some (.int 1)) ∧ h'.2.1.1 ≤ 601024 ∧ h'.2.1.2 ≤ 7293034) := by
      intro h' s' th' g' x5 x6 ok' a' b' ol' hs' p1 p2
      refine ax_iinc (ls' := [_, _, _, _, _, _, _]) f0_1661 rfl (Nat.le_of_ble_eq_true rfl) rfl ?_
      refine ax_goto f0_1664 rfl ?_
      exact law_lp hL n ok' a' b' ol' hs' (by omega) (by omega) (by omega) (by omega) (by omega)
    obtain ⟨R, S, c, G, b0, T, L0⟩ := s
    refine ax_aload_nS f0_32 rfl ?_
    refine ax_iload f0_33 rfl ?_
    refine ax_sldO f0_35 hs (by omega) (by omega) (by omega) ?_
    refine ax_bipush f0_36 ?_
    refine ax_iand f0_38 ?_
    obtain ⟨w, ew, w1, w2⟩ := and31 (iI (sx xs i))
    rw [ew]
    by_cases hw : w = 0
    · refine ax_nmI hw ?_
      refine ax_tswI f0_39 ⟨by omega, by omega⟩ (by omega) (by omega) rfl rfl ?_
      exact law_0 k a b ol hs (Nat.le_refl _) (Nat.le_refl _) ⟨hi, by omega, hL⟩ K
    have hw0 := hw
    clear hw
    by_cases hw : w = 1
    · refine ax_nmI hw ?_
      refine ax_tswI f0_39 ⟨by omega, by omega⟩ (by omega) (by omega) rfl rfl ?_
      exact law_1 k a b ol hs (Nat.le_refl _) (Nat.le_refl _) ⟨hi, by omega, hL⟩ K
    have hw1 := hw
    clear hw
    by_cases hw : w = 2
    · refine ax_nmI hw ?_
      refine ax_tswI f0_39 ⟨by omega, by omega⟩ (by omega) (by omega) rfl rfl ?_
      exact law_2 k a b ol hs (Nat.le_refl _) (Nat.le_refl _) ⟨hi, by omega, hL⟩ K
    have hw2 := hw
    clear hw
    by_cases hw : w = 3
    · refine ax_nmI hw ?_
      refine ax_tswI f0_39 ⟨by omega, by omega⟩ (by omega) (by omega) rfl rfl ?_
      exact law_3 k a b ol hs (Nat.le_refl _) (Nat.le_refl _) ⟨hi, by omega, hL⟩ K
    have hw3 := hw
    clear hw
    by_cases hw : w = 4
    · refine ax_nmI hw ?_
      refine ax_tswI f0_39 ⟨by omega, by omega⟩ (by omega) (by omega) rfl rfl ?_
      exact law_4 k a b ol hs (Nat.le_refl _) (Nat.le_refl _) ⟨hi, by omega, hL⟩ K
    have hw4 := hw
    clear hw
    by_cases hw : w = 5
    · refine ax_nmI hw ?_
      refine ax_tswI f0_39 ⟨by omega, by omega⟩ (by omega) (by omega) rfl rfl ?_
      exact law_5 k a b ol hs (Nat.le_refl _) (Nat.le_refl _) ⟨hi, by omega, hL⟩ K
    have hw5 := hw
    clear hw
    by_cases hw : w = 6
    · refine ax_nmI hw ?_
      refine ax_tswI f0_39 ⟨by omega, by omega⟩ (by omega) (by omega) rfl rfl ?_
      exact law_6 k a b ol hs (Nat.le_refl _) (Nat.le_refl _) ⟨hi, by omega, hL⟩ K
    have hw6 := hw
    clear hw
    by_cases hw : w = 7
    · refine ax_nmI hw ?_
      refine ax_tswI f0_39 ⟨by omega, by omega⟩ (by omega) (by omega) rfl rfl ?_
      exact law_7 k a b ol hs (Nat.le_refl _) (Nat.le_refl _) ⟨hi, by omega, hL⟩ K
    have hw7 := hw
    clear hw
    by_cases hw : w = 8
    · refine ax_nmI hw ?_
      refine ax_tswI f0_39 ⟨by omega, by omega⟩ (by omega) (by omega) rfl rfl ?_
      exact law_8 k a b ol hs (Nat.le_refl _) (Nat.le_refl _) ⟨hi, by omega, hL⟩ K
    have hw8 := hw
    clear hw
    by_cases hw : w = 9
    · refine ax_nmI hw ?_
      refine ax_tswI f0_39 ⟨by omega, by omega⟩ (by omega) (by omega) rfl rfl ?_
      exact law_9 k a b ol hs (Nat.le_refl _) (Nat.le_refl _) ⟨hi, by omega, hL⟩ K
    have hw9 := hw
    clear hw
    by_cases hw : w = 10
    · refine ax_nmI hw ?_
      refine ax_tswI f0_39 ⟨by omega, by omega⟩ (by omega) (by omega) rfl rfl ?_
      exact law_10 k a b ol hs (Nat.le_refl _) (Nat.le_refl _) ⟨hi, by omega, hL⟩ K
    have hw10 := hw
    clear hw
    by_cases hw : w = 11
    · refine ax_nmI hw ?_
      refine ax_tswI f0_39 ⟨by omega, by omega⟩ (by omega) (by omega) rfl rfl ?_
      exact law_11 k a b ol hs (Nat.le_refl _) (Nat.le_refl _) ⟨hi, by omega, hL⟩ K
    have hw11 := hw
    clear hw
    by_cases hw : w = 12
    · refine ax_nmI hw ?_
      refine ax_tswI f0_39 ⟨by omega, by omega⟩ (by omega) (by omega) rfl rfl ?_
      exact law_12 k a b ol hs (Nat.le_refl _) (Nat.le_refl _) ⟨hi, by omega, hL⟩ K
    have hw12 := hw
    clear hw
    by_cases hw : w = 13
    · refine ax_nmI hw ?_
      refine ax_tswI f0_39 ⟨by omega, by omega⟩ (by omega) (by omega) rfl rfl ?_
      exact law_13 k a b ol hs (Nat.le_refl _) (Nat.le_refl _) ⟨hi, by omega, hL⟩ K
    have hw13 := hw
    clear hw
    by_cases hw : w = 14
    · refine ax_nmI hw ?_
      refine ax_tswI f0_39 ⟨by omega, by omega⟩ (by omega) (by omega) rfl rfl ?_
      exact law_14 k a b ol hs (Nat.le_refl _) (Nat.le_refl _) ⟨hi, by omega, hL⟩ K
    have hw14 := hw
    clear hw
    by_cases hw : w = 15
    · refine ax_nmI hw ?_
      refine ax_tswI f0_39 ⟨by omega, by omega⟩ (by omega) (by omega) rfl rfl ?_
      exact law_15 k a b ol hs (Nat.le_refl _) (Nat.le_refl _) ⟨hi, by omega, hL⟩ K
    have hw15 := hw
    clear hw
    by_cases hw : w = 16
    · refine ax_nmI hw ?_
      refine ax_tswI f0_39 ⟨by omega, by omega⟩ (by omega) (by omega) rfl rfl ?_
      exact law_16 k a b ol hs (Nat.le_refl _) (Nat.le_refl _) ⟨hi, by omega, hL⟩ K
    have hw16 := hw
    clear hw
    by_cases hw : w = 17
    · refine ax_nmI hw ?_
      refine ax_tswI f0_39 ⟨by omega, by omega⟩ (by omega) (by omega) rfl rfl ?_
      exact law_17 k a b ol hs (Nat.le_refl _) (Nat.le_refl _) ⟨hi, by omega, hL⟩ K
    have hw17 := hw
    clear hw
    by_cases hw : w = 18
    · refine ax_nmI hw ?_
      refine ax_tswI f0_39 ⟨by omega, by omega⟩ (by omega) (by omega) rfl rfl ?_
      exact law_18 k a b ol hs (Nat.le_refl _) (Nat.le_refl _) ⟨hi, by omega, hL⟩ K
    have hw18 := hw
    clear hw
    by_cases hw : w = 19
    · refine ax_nmI hw ?_
      refine ax_tswI f0_39 ⟨by omega, by omega⟩ (by omega) (by omega) rfl rfl ?_
      exact law_19 k a b ol hs (Nat.le_refl _) (Nat.le_refl _) ⟨hi, by omega, hL⟩ K
    have hw19 := hw
    clear hw
    by_cases hw : w = 20
    · refine ax_nmI hw ?_
      refine ax_tswI f0_39 ⟨by omega, by omega⟩ (by omega) (by omega) rfl rfl ?_
      exact law_20 k a b ol hs (Nat.le_refl _) (Nat.le_refl _) ⟨hi, by omega, hL⟩ K
    have hw20 := hw
    clear hw
    by_cases hw : w = 21
    · refine ax_nmI hw ?_
      refine ax_tswI f0_39 ⟨by omega, by omega⟩ (by omega) (by omega) rfl rfl ?_
      exact law_21 k a b ol hs (Nat.le_refl _) (Nat.le_refl _) ⟨hi, by omega, hL⟩ K
    have hw21 := hw
    clear hw
    by_cases hw : w = 22
    · refine ax_nmI hw ?_
      refine ax_tswI f0_39 ⟨by omega, by omega⟩ (by omega) (by omega) rfl rfl ?_
      exact law_22 k a b ol hs (Nat.le_refl _) (Nat.le_refl _) ⟨hi, by omega, hL⟩ K
    have hw22 := hw
    clear hw
    by_cases hw : w = 23
    · refine ax_nmI hw ?_
      refine ax_tswI f0_39 ⟨by omega, by omega⟩ (by omega) (by omega) rfl rfl ?_
      exact law_23 k a b ol hs (Nat.le_refl _) (Nat.le_refl _) ⟨hi, by omega, hL⟩ K
    have hw23 := hw
    clear hw
    by_cases hw : w = 24
    · refine ax_nmI hw ?_
      refine ax_tswI f0_39 ⟨by omega, by omega⟩ (by omega) (by omega) rfl rfl ?_
      exact law_24 k a b ol hs (Nat.le_refl _) (Nat.le_refl _) ⟨hi, by omega, hL⟩ K
    have hw24 := hw
    clear hw
    by_cases hw : w = 25
    · refine ax_nmI hw ?_
      refine ax_tswI f0_39 ⟨by omega, by omega⟩ (by omega) (by omega) rfl rfl ?_
      exact law_25 k a b ol hs (Nat.le_refl _) (Nat.le_refl _) ⟨hi, by omega, hL⟩ K
    have hw25 := hw
    clear hw
    by_cases hw : w = 26
    · refine ax_nmI hw ?_
      refine ax_tswI f0_39 ⟨by omega, by omega⟩ (by omega) (by omega) rfl rfl ?_
      exact law_26 k a b ol hs (Nat.le_refl _) (Nat.le_refl _) ⟨hi, by omega, hL⟩ K
    have hw26 := hw
    clear hw
    refine ax_tswO f0_39 ⟨by omega, by omega⟩ (by omega) rfl ?_
    exact K k a b ol hs (by omega) (by omega)
theorem okS_0 : okS (beg, fun _ _ => 0, 0, fun _ => beg, fun _ => 0, fun _ => 0, 0) :=
  ⟨inv_beg, fun j (j1 : 0 ≤ j) (j2 : j < 0) => by omega, (show (0 : Int) ≤ 0 ∧ (0 : Int) ≤ 14 by decide), fun i hi (z : (0 : Int) = 1) => absurd z (by decide), fun _ _ _ => Or.inl rfl, (show (0 : Int) ≤ 0 ∧ (0 : Int) ≤ 120 by decide), fun j (j1 : 0 ≤ j) (j2 : j < 0) => by omega⟩
theorem law_all (L : Nat) (xs : Nat → Int32) (hL : L ≤ 2048) : am_X 100 0 0 (am_ent 0 [.retAddr 0]) [] ([], (0, 0), (L, xs)) (fun r h' => r = .inl (some (.int 1)) ∧ h'.2.1.1 ≤ 601024 ∧ h'.2.1.2 ≤ 7293034) := by
  show am_X 100 0 0 [.retAddr 0, am_u, am_u, am_u, am_u, am_u, am_u] [] ([], (0, 0), (L, xs)) _
  generalize hh : (([], (0, 0), (L, xs)) : am_H) = h0
  have hl0 : h0.1.length = 0 := by rw [← hh]; rfl
  have hc0 : h0.2.1 = (0, 0) := by rw [← hh]
  have hs0 : h0.2.2 = (L, xs) := by rw [← hh]
  clear hh
  refine ax_newO f0_0 rfl hl0 (fun h1 o1 w1 => ?_)
  have hl1 : h1.1.length = 1 := by have := w1.2.1; omega
  refine ax_dup f0_3 rfl ?_
  refine ax_ciV (rest := [_]) f0_4 (Or.inl rfl) rfl rfl rfl rfl rfl rfl (c_106 (S := fun _ _ => 0) (T := fun _ => 0) hl1 o1) ?_
  rintro h2 ⟨a, w2⟩
  have hl2 : h2.1.length = 120 := by have := w2.2.1; omega
  refine ax_astore_n (ls' := [_, _, _, _, _, _, _]) f0_7 (Nat.le_of_ble_eq_true rfl) rfl ?_
  refine ax_newO f0_8 rfl hl2 (fun h3 o3 w3 => ?_)
  have hl3 : h3.1.length = 121 := by have := w3.2.1; omega
  refine ax_dup f0_11 rfl ?_
  refine ax_ciV (rest := [_]) f0_12 (Or.inl rfl) rfl rfl rfl rfl rfl rfl (c_142 (S := fun _ _ => 0) (G := fun _ => beg) hl3 o3) ?_
  rintro h4 ⟨b, w4⟩
  have hl4 : h4.1.length = 133 := by have := w4.2.1; omega
  refine ax_astore_n (ls' := [_, _, _, _, _, _, _]) f0_15 (Nat.le_of_ble_eq_true rfl) rfl ?_
  refine ax_iconst f0_16 ?_
  refine ax_nwaO f0_17 (by omega) (by omega) rfl rfl hl4 (fun h5 o5 w5 => ?_)
  have hl5 : h5.1.length = 134 := by have := w5.2.1; omega
  refine ax_astore_n (ls' := [_, _, _, _, _, _, _]) f0_19 (Nat.le_of_ble_eq_true rfl) rfl ?_
  refine ax_iconst f0_20 ?_
  refine ax_istore (ls' := [_, _, _, _, _, _, _]) f0_21 (Nat.le_of_ble_eq_true rfl) rfl ?_
  have a := ((a.gw w3 (by omega)).gw w4 (by omega)).gw w5 (by omega)
  have b := Mdl_tr b (fun q q1 q2 => by
    by_cases hq : q < 133
    · exact w5.1 q hq
    · rw [List.getElem?_eq_none (by omega), List.getElem?_eq_none (by omega)])
  have ol : oL h5 133 1 (fun _ => 0) := ⟨fun _ => 0, o5, fun _ _ => rfl⟩
  have e1 := w1.2.2.1
  have e2 := w2.2.2.1
  have e3 := w3.2.2.1
  have e4 := w4.2.2.1
  have e5 := w5.2.2.1
  rw [hc0] at e1
  rw [e1] at e2
  rw [e2] at e3
  rw [e3] at e4
  rw [e4] at e5
  have c1 := congrArg Prod.fst e5
  have c2 := congrArg Prod.snd e5
  have hs := w5.2.2.2.trans (w4.2.2.2.trans (w3.2.2.2.trans (w2.2.2.2.trans (w1.2.2.2.trans hs0))))
  refine law_lp hL 513 okS_0 a b ol hs (by omega) (by omega) (by omega) ?_ ?_
  · rw [c1]; exact Nat.le_of_ble_eq_true rfl
  · rw [c2]; exact Nat.le_of_ble_eq_true rfl
theorem whole_start {p : Program} {e : Env} {s : State} {m : MethodId} {below : List Frame} {meth : Method} {c : Code} (l : Launch) (hflags : l.flags = flags0) {b L : Nat} {xs : Nat → Int32} (hL : L ≤ 2048) (C0 : lw_At p s m meth c b L xs) : W p l e room_1 s m #[Value.ref b] below meth c s.heap [] 0 0 (lw_Z below #[Value.ref b] s) (entryFrame m ([Value.ref b] : List Value).toArray 7) :=
  am_start law_all l hflags hL C0
end LAX
