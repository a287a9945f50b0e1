/-! ===== the law: its loop, its start ===== -/
section LAX
theorem ax_csJ {d m pc : Nat} {ls st : List Value} {h : am_H} {Q : am_R → am_H → Prop} {i y nb w dc : Nat} {as rest : List Value} {v : Value} (hf : am_tab m pc = some (.invokestatic i, 3, y, nb, w, v)) (hv : v = .int 2 ∨ v = .int 3 ∨ v = .int 9) (hl : Nat.ble nb st.length = true) (hs : (st.take nb).reverse = as) (hr : st.drop nb = rest) (hc : Nat.ble (am_cs rest) 8 = true) (hm : Nat.ble (am_cs as) (am_mx y) = true) (hd : Nat.ble (dc + 1) d = true)
    (hy : am_X dc y 0 (am_ent y as) [] h (fun r h' => (∃ x : Int32, r = .inl (some (.int x))) ∧ h' = h)) (k : ∀ x : Int32, am_X d m (pc + 3) ls (.int x :: rest) h Q) : am_X d m pc ls st h Q :=
  ax_calls (kd := 0) hf hv (Nat.le_of_ble_eq_true hl) hs hr (Nat.le_of_ble_eq_true hc) (Nat.le_of_ble_eq_true hm) hy (Nat.le_of_ble_eq_true hd) (fun r h' hp => by
    obtain ⟨⟨x, rfl⟩, rfl⟩ := hp
    exact ⟨_, rfl, k x⟩)
theorem Lst.fr {h h' : am_H} {R : Int → Int} (L : Lst h R) (cl : Lcl h' R) (f : fr (fun q => q < 120) h h') : Lst h' R := by
  obtain ⟨_, w, a, l, fe, b, t, nN⟩ := L
  exact ⟨cl, w.fr f (by omega), a.fr f (by omega), l.fr f (by omega), fe.fr f (by omega), b.fr f (by omega), t.fr f (by omega), nN.fr f (by omega)⟩
theorem Lst.gx {h h' : am_H} {R : Int → Int} {n m : Nat} (L : Lst h R) (cl : Lcl h' R) (f : gx (fun q => q < 120) h h' n m) : Lst h' R := by
  obtain ⟨_, w, a, l, fe, b, t, nN⟩ := L
  exact ⟨cl, w.gx f (by omega), a.gx f (by omega), l.gx f (by omega), fe.gx f (by omega), b.gx f (by omega), t.gx f (by omega), nN.gx f (by omega)⟩
section VS
variable {h : am_H} {R : Int → Int}
theorem v_12 (L : Lst h R) : am_X 3 12 0 (am_ent 12 [.ref 0, .ref 120, .ref 121, .ref 122, .ref 123, .ref 125, .ref 126]) [] h (fun r h' => rI r 1 ∧ (Lst h' R ∧ gx (fun q => q < 127) h h' 0 0)) :=
  am_X_mono (c_12 L.1 L.2.1 L.2.2.1 L.2.2.2.1 L.2.2.2.2.1 L.2.2.2.2.2.2.1 L.2.2.2.2.2.2.2) (Nat.le_refl _) (fun r h' q => ⟨q.1, L.fr q.2.1 q.2.2, gx_fr (q.2.2.mono fun x e => by omega)⟩)
theorem v_14 (L : Lst h R) : am_X 6 14 0 (am_ent 14 [.ref 0, .ref 120, .ref 121, .ref 123, .ref 124, .ref 126]) [] h (fun r h' => rI r 1 ∧ (Lst h' R ∧ gx (fun q => q < 127) h h' 0 0)) :=
  am_X_mono (c_14 L.1 L.2.1 L.2.2.1 L.2.2.2.2.1 L.2.2.2.2.2.1 L.2.2.2.2.2.2.2) (Nat.le_refl _) (fun r h' q => ⟨q.1, L.fr q.2.1 q.2.2, gx_fr (q.2.2.mono fun x e => by omega)⟩)
theorem v_15 (L : Lst h R) (hl : 127 ≤ h.1.length) : am_X 55 15 0 (am_ent 15 [.ref 0, .ref 120, .ref 121, .ref 122, .ref 123, .ref 124, .ref 126]) [] h (fun r h' => rI r 1 ∧ ∃ nc ms, nc ≤ 16 ∧ ms ≤ 816 ∧ Lst h' R ∧ gx (fun q => q < 127) h h' nc ms) :=
  am_X_mono (c_15 hl L.1 L.2.1 L.2.2.1 L.2.2.2.1 L.2.2.2.2.1 L.2.2.2.2.2.1 L.2.2.2.2.2.2.2) (Nat.le_refl _) (fun r h' q => by
    obtain ⟨q1, nc, ms, q2, q3, q4, q5⟩ := q
    exact ⟨q1, nc, ms, q2, q3, L.gx q4 q5, q5.mono fun x e => by omega⟩)
theorem v_16 (L : Lst h R) (hl : 127 ≤ h.1.length) {k : Int} (h0 : 0 ≤ k ∧ k < blk R) : am_X 7 16 0 (am_ent 16 [.ref 0, .ref 120, .ref 122, .ref 123, .int (iI k)]) [] h (fun r h' => rI r 1 ∧ ∃ nc ms, nc ≤ 2 ∧ ms ≤ 112 ∧ Lst h' R ∧ gx (fun q => q < 127) h h' nc ms) :=
  am_X_mono (c_16 hl h0 L.1 L.2.1 L.2.2.2.1 L.2.2.2.2.1) (Nat.le_refl _) (fun r h' q => by
    obtain ⟨q1, nc, ms, q2, q3, q4, q5⟩ := q
    exact ⟨q1, nc, ms, q2, q3, L.gx q4 q5, q5.mono fun x e => by omega⟩)
theorem v_19 (L : Lst h R) {n : Int} (h0 : 1 ≤ n ∧ n ≤ 11) : am_X 5 19 0 (am_ent 19 [.ref 0, .ref 120, .int (iI n)]) [] h (fun r h' => rI r 1 ∧ (Lst h' R ∧ gx (fun q => q < 127) h h' 0 0)) :=
  am_X_mono (c_19 L.1 L.2.1 h0) (Nat.le_refl _) (fun r h' q => ⟨q.1, L.fr q.2.1 q.2.2, gx_fr (q.2.2.mono fun x e => by omega)⟩)
end VS
theorem law_lp {L : Nat} {xs : Nat → Int32} (hL : L ≤ 260) : ∀ (n : Nat) (turn : Int) {h : am_H} {R : Int → Int} {x11 x12 : Value} (L0 : Lst h R) (hl : 127 ≤ h.1.length) (hs : h.2.2 = (L, xs)) (h1 : turn + n = 36) (h2 : 0 ≤ turn) (n1 : h.2.1.1 + 23 * n ≤ 600130) (n2 : h.2.1.2 + 1184 * n ≤ 7301080), am_X 100 0 133 [.retAddr 0, .ref 0, .ref 120, .ref 121, .ref 122, .ref 123, .ref 124, .ref 125, .ref 126, .int (iI 1), .int (iI turn), x11, x12] [] h (fun r h' => r = .inl (some (.int 1)) ∧ h'.2.1.1 ≤ 600130 ∧ h'.2.1.2 ≤ 7301080)
  | 0, turn, h, R, x11, x12, L0, hl, hs, h1, h2, n1, n2 => by
    have h1 : turn = 36 := by omega
    subst h1
    refine ax_iload f0_133 rfl ?_
    refine ax_bipush f0_135 ?_
    refine ax_icmp_ge f0_137 rfl ⟨by omega, by omega⟩ ⟨by omega, by omega⟩ (fun q137 => ?_) (fun q137 => absurd q137 (by omega))
    refine ax_iload f0_350 rfl ?_
    refine ax_ireturn f0_352 rfl rfl ?_
    exact ⟨rfl, by omega, by omega⟩
  | n + 1, turn, h, R, x11, x12, L0, hl, hs, h1, h2, n1, n2 => by
    refine ax_iload f0_133 rfl ?_
    refine ax_bipush f0_135 ?_
    refine ax_icmp_ge f0_137 rfl ⟨by omega, by omega⟩ ⟨by omega, by omega⟩ (fun q137 => absurd q137 (by omega)) (fun q137 => ?_)
    refine ax_iload f0_140 rfl ?_
    refine ax_if_eq f0_142 rfl ⟨by omega, by omega⟩ (fun q142 => absurd q142 (by omega)) (fun q142 => ?_)
    refine ax_aload_nS f0_145 rfl ?_
    refine ax_iload f0_146 rfl ?_
    refine ax_csJ (rest := []) f0_148 (Or.inl rfl) rfl rfl rfl rfl rfl rfl (c_1 hs hL (by omega) (by omega)) (fun x => ?_)
    have K207 : ∀ z : Int, 0 ≤ z ∧ z ≤ 13 → am_X 100 0 207 [.retAddr 0, .ref 0, .ref 120, .ref 121, .ref 122, .ref 123, .ref 124, .ref 125, .ref 126, .int (iI 1), .int (iI turn), .int x, x12] [.int (iI z)] h (fun r h' => r = .inl (some (.int 1)) ∧ h'.2.1.1 ≤ 600130 ∧ h'.2.1.2 ≤ 7301080) := by
      intro z hz
      refine ax_istore (ls' := [_, _, _, _, _, _, _, _, _, _, _, _, _]) f0_207 (Nat.le_of_ble_eq_true rfl) rfl ?_
      refine ax_aload_n f0_209 rfl ?_
      refine ax_aload_n f0_210 rfl ?_
      refine ax_aload_n f0_211 rfl ?_
      refine ax_aload f0_212 rfl ?_
      refine ax_aload f0_214 rfl ?_
      refine ax_aload f0_216 rfl ?_
      refine ax_aload f0_218 rfl ?_
      refine ax_aload f0_220 rfl ?_
      refine ax_iload f0_222 rfl ?_
      refine ax_iload f0_224 rfl ?_
      refine ax_csI (rest := []) f0_226 (Or.inl rfl) rfl rfl rfl rfl rfl rfl (c_146 L0 hl hz x) ?_
      rintro hh1 ⟨R2, nc1, ms1, n1, m1, L1, g1⟩
      have L0 := L1
      have G := g1
      have hl : 127 ≤ hh1.1.length := by have := G.2.1; omega
      refine ax_if_eq f0_229 rfl ⟨by omega, by omega⟩ (fun q229 => absurd q229 (by omega)) (fun q229 => ?_)
      refine ax_aload_n f0_232 rfl ?_
      refine ax_aload_n f0_233 rfl ?_
      refine ax_aload_n f0_234 rfl ?_
      refine ax_aload f0_235 rfl ?_
      refine ax_aload f0_237 rfl ?_
      refine ax_aload f0_239 rfl ?_
      refine ax_aload f0_241 rfl ?_
      refine ax_csI (rest := []) f0_243 (Or.inl rfl) rfl rfl rfl rfl rfl rfl (v_12 L0) ?_
      rintro hh2 ⟨L2, g2⟩
      have L0 := L2
      have G := G.tr g2
      have hl : 127 ≤ hh2.1.length := by have := G.2.1; omega
      refine ax_if_eq f0_246 rfl ⟨by omega, by omega⟩ (fun q246 => absurd q246 (by omega)) (fun q246 => ?_)
      refine ax_aload_n f0_249 rfl ?_
      refine ax_aload_n f0_250 rfl ?_
      refine ax_aload_n f0_251 rfl ?_
      refine ax_aload f0_252 rfl ?_
      refine ax_aload f0_254 rfl ?_
      refine ax_aload f0_256 rfl ?_
      refine ax_csI (rest := []) f0_258 (Or.inl rfl) rfl rfl rfl rfl rfl rfl (v_14 L0) ?_
      rintro hh3 ⟨L3, g3⟩
      have L0 := L3
      have G := G.tr g3
      have hl : 127 ≤ hh3.1.length := by have := G.2.1; omega
      refine ax_if_eq f0_261 rfl ⟨by omega, by omega⟩ (fun q261 => absurd q261 (by omega)) (fun q261 => ?_)
      refine ax_iconst f0_264 ?_
      refine ax_goto f0_265 rfl ?_
      refine ax_istore (ls' := [_, _, _, _, _, _, _, _, _, _, _, _, _]) f0_269 (Nat.le_of_ble_eq_true rfl) rfl ?_
      refine ax_iload f0_271 rfl ?_
      refine ax_if_eq f0_273 rfl ⟨by omega, by omega⟩ (fun q273 => absurd q273 (by omega)) (fun q273 => ?_)
      refine ax_aload_n f0_276 rfl ?_
      refine ax_aload_n f0_277 rfl ?_
      refine ax_aload_n f0_278 rfl ?_
      refine ax_aload f0_279 rfl ?_
      refine ax_aload f0_281 rfl ?_
      refine ax_aload f0_283 rfl ?_
      refine ax_aload f0_285 rfl ?_
      refine ax_csI (rest := []) f0_287 (Or.inl rfl) rfl rfl rfl rfl rfl rfl (v_15 L0 hl) ?_
      rintro hh4 ⟨nc4, ms4, n4, m4, L4, g4⟩
      have L0 := L4
      have G := G.tr g4
      have hl : 127 ≤ hh4.1.length := by have := G.2.1; omega
      refine ax_if_eq f0_290 rfl ⟨by omega, by omega⟩ (fun q290 => absurd q290 (by omega)) (fun q290 => ?_)
      refine ax_aload_n f0_293 rfl ?_
      refine ax_aload_n f0_294 rfl ?_
      refine ax_aload f0_295 rfl ?_
      refine ax_aload f0_297 rfl ?_
      refine ax_iload f0_299 rfl ?_
      refine ax_iconst f0_301 ?_
      refine ax_ishr f0_302 ?_
      refine ax_aload f0_303 rfl ?_
      have b12 := L0.1.i.b12
      have b1 := blk_1 L0.1.i.ff
      refine ax_csI (rest := [_, _, _, _, _]) f0_305 (Or.inl rfl) rfl rfl rfl rfl rfl rfl (c_3 (R := R2) L0.2.2.2.2.1) ?_
      intro _ e_
      obtain rfl := e_.symm
      clear e_
      refine ax_csI (rest := [_, _, _, _]) f0_308 (Or.inl rfl) rfl rfl rfl rfl rfl rfl (c_2 (by omega) (by omega)) ?_
      intro _ e_
      obtain rfl := e_.symm
      clear e_
      have bu1 := lwz_in (x >>> (iI 5 &&& 31)) (n := (blk R2)) (by omega)
      generalize lwz (x >>> (iI 5 &&& 31)) (blk R2) = u1 at bu1 ⊢
      refine ax_csI (rest := []) f0_311 (Or.inl rfl) rfl rfl rfl rfl rfl rfl (v_16 L0 hl bu1) ?_
      rintro hh6 ⟨nc6, ms6, n6, m6, L6, g6⟩
      have L0 := L6
      have G := G.tr g6
      have hl : 127 ≤ hh6.1.length := by have := G.2.1; omega
      refine ax_if_eq f0_314 rfl ⟨by omega, by omega⟩ (fun q314 => absurd q314 (by omega)) (fun q314 => ?_)
      refine ax_aload_n f0_317 rfl ?_
      refine ax_aload_n f0_318 rfl ?_
      refine ax_iconst f0_319 ?_
      refine ax_iload f0_320 rfl ?_
      refine ax_bipush f0_322 ?_
      refine ax_ishr f0_324 ?_
      refine ax_bipush f0_325 ?_
      refine ax_csI (rest := [_, _, _]) f0_327 (Or.inl rfl) rfl rfl rfl rfl rfl rfl (c_2 (by omega) (by omega)) ?_
      intro _ e_
      obtain rfl := e_.symm
      clear e_
      have bu2 := lwz_in (x >>> (iI 8 &&& 31)) (n := 11) (by omega)
      generalize lwz (x >>> (iI 8 &&& 31)) 11 = u2 at bu2 ⊢
      refine ax_iadd f0_330 ?_
      refine ax_csI (rest := []) f0_331 (Or.inl rfl) rfl rfl rfl rfl rfl rfl (v_19 L0 ⟨by omega, by omega⟩) ?_
      rintro hh8 ⟨L8, g8⟩
      have L0 := L8
      have G := G.tr g8
      have hl : 127 ≤ hh8.1.length := by have := G.2.1; omega
      refine ax_if_eq f0_334 rfl ⟨by omega, by omega⟩ (fun q334 => absurd q334 (by omega)) (fun q334 => ?_)
      refine ax_iconst f0_337 ?_
      refine ax_goto f0_338 rfl ?_
      refine ax_istore (ls' := [_, _, _, _, _, _, _, _, _, _, _, _, _]) f0_342 (Nat.le_of_ble_eq_true rfl) rfl ?_
      refine ax_iinc (ls' := [_, _, _, _, _, _, _, _, _, _, _, _, _]) f0_344 rfl (Nat.le_of_ble_eq_true rfl) rfl ?_
      refine ax_goto f0_347 rfl ?_
      have g2 := G.2.2.1
      have g3 := congrArg Prod.fst g2
      have g4 := congrArg Prod.snd g2
      dsimp only at g3 g4
      exact law_lp hL n (turn + 1) L0 hl (G.2.2.2.trans hs) (by omega) (by omega) (by omega) (by omega)
    refine ax_istore (ls' := [_, _, _, _, _, _, _, _, _, _, _, _, _]) f0_151 (Nat.le_of_ble_eq_true rfl) rfl ?_
    refine ax_iload f0_153 rfl ?_
    refine ax_iconst f0_155 ?_
    refine ax_icmp_ge f0_156 rfl ⟨by omega, by omega⟩ ⟨by omega, by omega⟩ (fun q156 => ?_) (fun q156 => ?_)
    · refine ax_iload f0_163 rfl ?_
      refine ax_bipush f0_165 ?_
      refine ax_icmp_ge f0_167 rfl ⟨by omega, by omega⟩ ⟨by omega, by omega⟩ (fun q167 => ?_) (fun q167 => ?_)
      · refine ax_iload f0_174 rfl ?_
        refine ax_bipush f0_176 ?_
        refine ax_icmp_ge f0_178 rfl ⟨by omega, by omega⟩ ⟨by omega, by omega⟩ (fun q178 => ?_) (fun q178 => ?_)
        · refine ax_iload f0_185 rfl ?_
          refine ax_bipush f0_187 ?_
          refine ax_icmp_ne f0_189 rfl ⟨by omega, by omega⟩ ⟨by omega, by omega⟩ (fun q189 => ?_) (fun q189 => ?_)
          · refine ax_iload f0_197 rfl ?_
            refine ax_bipush f0_199 ?_
            refine ax_ishr f0_201 ?_
            refine ax_bipush f0_202 ?_
            refine ax_csI (rest := []) f0_204 (Or.inl rfl) rfl rfl rfl rfl rfl rfl (c_2 (by omega) (by omega)) ?_
            intro _ e_
            obtain rfl := e_.symm
            clear e_
            have bu0 := lwz_in (x >>> (iI 17 &&& 31)) (n := 14) (by omega)
            generalize lwz (x >>> (iI 17 &&& 31)) 14 = u0 at bu0 ⊢
            exact K207 u0 (by omega)
          · refine ax_bipush f0_192 ?_
            refine ax_goto f0_194 rfl ?_
            exact K207 8 (by omega)
        · refine ax_iconst f0_181 ?_
          refine ax_goto f0_182 rfl ?_
          exact K207 0 (by omega)
      · refine ax_iconst f0_170 ?_
        refine ax_goto f0_171 rfl ?_
        exact K207 4 (by omega)
    · refine ax_iconst f0_159 ?_
      refine ax_goto f0_160 rfl ?_
      exact K207 3 (by omega)
theorem law_w {d : Nat} {Q : am_R → am_H → Prop} : ∀ (n : Nat) (r : Int) (u : Int → Int) {h : am_H} (w : oI h 120 48 u) (h1 : r + n = 48) (h2 : 0 ≤ r) (hu : ∀ j, 0 ≤ j → j < r → u j = 1) (kk : ∀ h', oI h' 120 48 (fun _ => 1) → fr (fun q => q = 120) h h' → am_X d 0 74 [.retAddr 0, .ref 0, .ref 120, .ref 121, .ref 122, .ref 123, .ref 124, .ref 125, .ref 126, .int (iI 48), am_u, am_u, am_u] [] h' Q), am_X d 0 56 [.retAddr 0, .ref 0, .ref 120, .ref 121, .ref 122, .ref 123, .ref 124, .ref 125, .ref 126, .int (iI r), am_u, am_u, am_u] [] h Q
  | 0, r, u, h, w, h1, h2, hu, kk => by
    have h1 : r = 48 := by omega
    subst h1
    refine ax_iload f0_56 rfl ?_
    refine ax_bipush f0_58 ?_
    refine ax_icmp_ge f0_60 rfl ⟨by omega, by omega⟩ ⟨by omega, by omega⟩ (fun q60 => ?_) (fun q60 => absurd q60 (by omega))
    exact kk h (w.eq (fun j j1 j2 => (hu j j1 (by omega)).symm)) fr_rf
  | n + 1, r, u, h, w, h1, h2, hu, kk => by
    refine ax_iload f0_56 rfl ?_
    refine ax_bipush f0_58 ?_
    refine ax_icmp_ge f0_60 rfl ⟨by omega, by omega⟩ ⟨by omega, by omega⟩ (fun q60 => absurd q60 (by omega)) (fun q60 => ?_)
    refine ax_aload_n f0_63 rfl ?_
    refine ax_iload f0_64 rfl ?_
    refine ax_iconst f0_66 ?_
    refine ax_iastO f0_67 w (by omega) (by omega) rfl (fun hp1 o1 r1 => ?_)
    have w := o1
    refine ax_iinc (ls' := [_, _, _, _, _, _, _, _, _, _, _, _, _]) f0_68 rfl (Nat.le_of_ble_eq_true rfl) rfl ?_
    refine ax_goto f0_71 rfl ?_
    refine law_w n (r + 1) _ w (by omega) (by omega) (fun j j1 j2 => ?_) (fun h' c1 c2 => kk h' c1 (r1.trans c2))
    by_cases c : j = r
    · rw [c]; exact uZ_s
    · rw [uZ_n c]; exact hu j j1 (by omega)
theorem okS_0 : okS (beg, fun _ _ => 0, 0, fun _ => beg, fun _ => 0, fun _ => 0, 0) :=
  ⟨inv_beg, fun j (j1 : 0 ≤ j) (j2 : j < 0) => by omega, (show (0 : Int) ≤ 0 ∧ (0 : Int) ≤ 14 by decide), fun i hi (z : (0 : Int) = 1) => absurd z (by decide), fun _ _ _ => Or.inl rfl, (show (0 : Int) ≤ 0 ∧ (0 : Int) ≤ 120 by decide), fun j (j1 : 0 ≤ j) (j2 : j < 0) => by omega⟩
theorem law_all (L : Nat) (xs : Nat → Int32) (hL : L ≤ 260) : am_X 100 0 0 (am_ent 0 [.retAddr 0]) [] ([], (0, 0), (L, xs)) (fun r h' => r = .inl (some (.int 1)) ∧ h'.2.1.1 ≤ 600130 ∧ h'.2.1.2 ≤ 7301080) := by
  show am_X 100 0 0 [.retAddr 0, am_u, am_u, am_u, am_u, am_u, am_u, am_u, am_u, am_u, am_u, am_u, am_u] [] ([], (0, 0), (L, xs)) _
  generalize hh : (([], (0, 0), (L, xs)) : am_H) = h0
  have hl0 : h0.1.length = 0 := by rw [← hh]; rfl
  have hc0 : h0.2.1 = (0, 0) := by rw [← hh]
  have hs0 : h0.2.2 = (L, xs) := by rw [← hh]
  clear hh
  refine ax_newO f0_0 rfl hl0 (fun h1 o1 w1 => ?_)
  have hl1 : h1.1.length = 1 := by have := w1.2.1; omega
  refine ax_dup f0_3 rfl ?_
  refine ax_ciV (rest := [_]) f0_4 (Or.inl rfl) rfl rfl rfl rfl rfl rfl (c_106 (S := fun _ _ => 0) (T := fun _ => 0) hl1 o1) ?_
  rintro h2 ⟨cl, w2⟩
  have hl2 : h2.1.length = 120 := by have := w2.2.1; omega
  have cl : Lcl h2 beg := ⟨_, _, _, _, _, _, cl, okS_0⟩
  have G := w1.tr w2
  refine ax_astore_n (ls' := [_, _, _, _, _, _, _, _, _, _, _, _, _]) f0_7 (Nat.le_of_ble_eq_true rfl) rfl ?_
  refine ax_bipush f0_8 ?_
  refine ax_nwaO (A := (48, .inl fun _ => 0)) (N := 48) (p := 120) f0_10 (by omega) (by omega) rfl rfl hl2 (fun h3 o3 g3 => ?_)
  have hl3 : h3.1.length = 121 := by have := g3.2.1; omega
  have w : oI h3 120 48 (fun _ => 0) := oA_0 o3
  have cl := cl.gw g3 (by omega)
  have G := G.tr (g3.lo (p' := 0) (by omega))
  refine ax_astore_n (ls' := [_, _, _, _, _, _, _, _, _, _, _, _, _]) f0_12 (Nat.le_of_ble_eq_true rfl) rfl ?_
  refine ax_bipush f0_13 ?_
  refine ax_nwaO (A := (48, .inl fun _ => 0)) (N := 48) (p := 121) f0_15 (by omega) (by omega) rfl rfl hl3 (fun h4 o4 g4 => ?_)
  have hl4 : h4.1.length = 122 := by have := g4.2.1; omega
  have a : oI h4 121 48 (fun _ => 0) := oA_0 o4
  have w := w.gw g4 (by omega)
  have cl := cl.gw g4 (by omega)
  have G := G.tr (g4.lo (p' := 0) (by omega))
  refine ax_astore_n (ls' := [_, _, _, _, _, _, _, _, _, _, _, _, _]) f0_17 (Nat.le_of_ble_eq_true rfl) rfl ?_
  refine ax_bipush f0_18 ?_
  refine ax_nwaO (A := (48, .inl fun _ => 0)) (N := 48) (p := 122) f0_20 (by omega) (by omega) rfl rfl hl4 (fun h5 o5 g5 => ?_)
  have hl5 : h5.1.length = 123 := by have := g5.2.1; omega
  have l : oI h5 122 48 (fun _ => 0) := oA_0 o5
  have w := w.gw g5 (by omega)
  have a := a.gw g5 (by omega)
  have cl := cl.gw g5 (by omega)
  have G := G.tr (g5.lo (p' := 0) (by omega))
  refine ax_astore (ls' := [_, _, _, _, _, _, _, _, _, _, _, _, _]) f0_22 (Nat.le_of_ble_eq_true rfl) rfl ?_
  refine ax_bipush f0_24 ?_
  refine ax_nwaO (A := (48, .inl fun _ => 0)) (N := 48) (p := 123) f0_26 (by omega) (by omega) rfl rfl hl5 (fun h6 o6 g6 => ?_)
  have hl6 : h6.1.length = 124 := by have := g6.2.1; omega
  have f : oI h6 123 48 (fun _ => 0) := oA_0 o6
  have w := w.gw g6 (by omega)
  have a := a.gw g6 (by omega)
  have l := l.gw g6 (by omega)
  have cl := cl.gw g6 (by omega)
  have G := G.tr (g6.lo (p' := 0) (by omega))
  refine ax_astore (ls' := [_, _, _, _, _, _, _, _, _, _, _, _, _]) f0_28 (Nat.le_of_ble_eq_true rfl) rfl ?_
  refine ax_bipush f0_30 ?_
  refine ax_nwaO (A := (24, .inl fun _ => 0)) (N := 24) (p := 124) f0_32 (by omega) (by omega) rfl rfl hl6 (fun h7 o7 g7 => ?_)
  have hl7 : h7.1.length = 125 := by have := g7.2.1; omega
  have b : oI h7 124 24 (fun _ => 0) := oA_0 o7
  have w := w.gw g7 (by omega)
  have a := a.gw g7 (by omega)
  have l := l.gw g7 (by omega)
  have f := f.gw g7 (by omega)
  have cl := cl.gw g7 (by omega)
  have G := G.tr (g7.lo (p' := 0) (by omega))
  refine ax_astore (ls' := [_, _, _, _, _, _, _, _, _, _, _, _, _]) f0_34 (Nat.le_of_ble_eq_true rfl) rfl ?_
  refine ax_bipush f0_36 ?_
  refine ax_nwaO (A := (48, .inl fun _ => 0)) (N := 48) (p := 125) f0_38 (by omega) (by omega) rfl rfl hl7 (fun h8 o8 g8 => ?_)
  have hl8 : h8.1.length = 126 := by have := g8.2.1; omega
  have t : oI h8 125 48 (fun _ => 0) := oA_0 o8
  have w := w.gw g8 (by omega)
  have a := a.gw g8 (by omega)
  have l := l.gw g8 (by omega)
  have f := f.gw g8 (by omega)
  have b := b.gw g8 (by omega)
  have cl := cl.gw g8 (by omega)
  have G := G.tr (g8.lo (p' := 0) (by omega))
  refine ax_astore (ls' := [_, _, _, _, _, _, _, _, _, _, _, _, _]) f0_40 (Nat.le_of_ble_eq_true rfl) rfl ?_
  refine ax_bipush f0_42 ?_
  refine ax_nwaO (A := (6, .inl fun _ => 0)) (N := 6) (p := 126) f0_44 (by omega) (by omega) rfl rfl hl8 (fun h9 o9 g9 => ?_)
  have hl9 : h9.1.length = 127 := by have := g9.2.1; omega
  have nN : oI h9 126 6 (fun _ => 0) := oA_0 o9
  have w := w.gw g9 (by omega)
  have a := a.gw g9 (by omega)
  have l := l.gw g9 (by omega)
  have f := f.gw g9 (by omega)
  have b := b.gw g9 (by omega)
  have t := t.gw g9 (by omega)
  have cl := cl.gw g9 (by omega)
  have G := G.tr (g9.lo (p' := 0) (by omega))
  refine ax_astore (ls' := [_, _, _, _, _, _, _, _, _, _, _, _, _]) f0_46 (Nat.le_of_ble_eq_true rfl) rfl ?_
  have F : fr (fun q => q < 127) h9 h9 := fr_rf
  refine ax_aload f0_48 rfl ?_
  refine ax_iconst f0_50 ?_
  refine ax_iconst f0_51 ?_
  refine ax_iastO f0_52 nN (by omega) (by omega) rfl (fun hp1 o1 r1 => ?_)
  have cl := cl.fr r1 (fun q hq => by omega)
  have w := w.fr r1 (by omega)
  have a := a.fr r1 (by omega)
  have l := l.fr r1 (by omega)
  have f := f.fr r1 (by omega)
  have b := b.fr r1 (by omega)
  have t := t.fr r1 (by omega)
  have nN := o1
  have F := F.trans (r1.mono fun x e => by omega)
  refine ax_iconst f0_53 ?_
  refine ax_istore (ls' := [_, _, _, _, _, _, _, _, _, _, _, _, _]) f0_54 (Nat.le_of_ble_eq_true rfl) rfl ?_
  refine law_w 48 0 _ w (by omega) (by omega) (fun j j1 j2 => by omega) (fun hb c1 c2 => ?_)
  have cl := cl.fr c2 (fun q hq => by omega)
  have w := c1
  have a := a.fr c2 (by omega)
  have l := l.fr c2 (by omega)
  have f := f.fr c2 (by omega)
  have b := b.fr c2 (by omega)
  have t := t.fr c2 (by omega)
  have nN := nN.fr c2 (by omega)
  have F := F.trans (c2.mono fun x e => by omega)
  have L0 : Lst hb beg := Lst_mk cl w a l f b t nN (fun j j1 j2 => if_pos j2) (fun j j1 j2 => by unfold beg; rw [if_neg (by omega), if_neg (by omega)]) (fun j j1 j2 => by unfold beg; rw [if_neg (by omega), if_neg (by omega)]) (fun j j1 j2 => by unfold beg; rw [if_neg (by omega), if_neg (by omega)]) (fun j j1 j2 => by unfold beg; rw [if_neg (by omega), if_neg (by omega)]) (fun j j1 j2 => by unfold beg; rw [if_neg (by omega), if_neg (by omega)]) (c6 rfl rfl rfl rfl rfl rfl)
  have hl : 127 ≤ hb.1.length := by rw [F.1]; omega
  have d2 := G.2.2.1
  rw [hc0] at d2
  have d3 : hb.2.1 = h9.2.1 := by rw [F.2.1]
  have d4 := congrArg Prod.fst (d3.trans d2)
  have d5 := congrArg Prod.snd (d3.trans d2)
  dsimp only at d4 d5
  have hsb : hb.2.2 = (L, xs) := by rw [F.2.1]; exact G.2.2.2.trans hs0
  have G : gx (fun q => q < 127) hb hb 0 0 := gx_fr fr_rf
  refine ax_aload_n f0_74 rfl ?_
  refine ax_aload_n f0_75 rfl ?_
  refine ax_aload_n f0_76 rfl ?_
  refine ax_aload f0_77 rfl ?_
  refine ax_aload f0_79 rfl ?_
  refine ax_aload f0_81 rfl ?_
  refine ax_aload f0_83 rfl ?_
  refine ax_csI (rest := []) f0_85 (Or.inl rfl) rfl rfl rfl rfl rfl rfl (v_12 L0) ?_
  rintro hh1 ⟨L1, g1⟩
  have L0 := L1
  have G := G.tr g1
  have hl : 127 ≤ hh1.1.length := by have := G.2.1; omega
  refine ax_if_eq f0_88 rfl ⟨by omega, by omega⟩ (fun q88 => absurd q88 (by omega)) (fun q88 => ?_)
  refine ax_aload_n f0_91 rfl ?_
  refine ax_aload_n f0_92 rfl ?_
  refine ax_aload_n f0_93 rfl ?_
  refine ax_aload f0_94 rfl ?_
  refine ax_aload f0_96 rfl ?_
  refine ax_aload f0_98 rfl ?_
  refine ax_csI (rest := []) f0_100 (Or.inl rfl) rfl rfl rfl rfl rfl rfl (v_14 L0) ?_
  rintro hh2 ⟨L2, g2⟩
  have L0 := L2
  have G := G.tr g2
  have hl : 127 ≤ hh2.1.length := by have := G.2.1; omega
  refine ax_if_eq f0_103 rfl ⟨by omega, by omega⟩ (fun q103 => absurd q103 (by omega)) (fun q103 => ?_)
  refine ax_aload_n f0_106 rfl ?_
  refine ax_aload_n f0_107 rfl ?_
  refine ax_aload_n f0_108 rfl ?_
  refine ax_aload f0_109 rfl ?_
  refine ax_aload f0_111 rfl ?_
  refine ax_aload f0_113 rfl ?_
  refine ax_aload f0_115 rfl ?_
  refine ax_csI (rest := []) f0_117 (Or.inl rfl) rfl rfl rfl rfl rfl rfl (v_15 L0 hl) ?_
  rintro hh3 ⟨nc3, ms3, n3, m3, L3, g3⟩
  have L0 := L3
  have G := G.tr g3
  have hl : 127 ≤ hh3.1.length := by have := G.2.1; omega
  refine ax_if_eq f0_120 rfl ⟨by omega, by omega⟩ (fun q120 => absurd q120 (by omega)) (fun q120 => ?_)
  refine ax_iconst f0_123 ?_
  refine ax_goto f0_124 rfl ?_
  refine ax_istore (ls' := [_, _, _, _, _, _, _, _, _, _, _, _, _]) f0_128 (Nat.le_of_ble_eq_true rfl) rfl ?_
  refine ax_iconst f0_130 ?_
  refine ax_istore (ls' := [_, _, _, _, _, _, _, _, _, _, _, _, _]) f0_131 (Nat.le_of_ble_eq_true rfl) rfl ?_
  have g2 := G.2.2.1
  have g3 := congrArg Prod.fst g2
  have g4 := congrArg Prod.snd g2
  dsimp only at g3 g4
  exact law_lp hL 36 0 L0 hl (G.2.2.2.trans hsb) (by omega) (by omega) (by omega) (by omega)
theorem whole_start {p : Program} {e : Env} {s : State} {m : MethodId} {below : List Frame} {meth : Method} {c : Code} (l : Launch) (hflags : l.flags = flags0) {b L : Nat} {xs : Nat → Int32} (hL : L ≤ 260) (C0 : lw_At p s m meth c b L xs) : W p l e room_1 s m #[Value.ref b] below meth c s.heap [] 0 0 (lw_Z below #[Value.ref b] s) (entryFrame m ([Value.ref b] : List Value).toArray 13) :=
  am_start law_all l hflags hL C0
end LAX
