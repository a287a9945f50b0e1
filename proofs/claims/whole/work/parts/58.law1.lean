/-! ===== the law: its cases ===== -/
section LAW
theorem oA.tr {t q n : Nat} {h h' : am_H} {g : Int → Int} (a : oA t h q n g) (e : h'.1[q]? = h.1[q]?) : oA t h' q n g := by
  obtain ⟨f, o, c⟩ := a
  exact ⟨f, e.trans o, c⟩
theorem Mdl_tr {h h' : am_H} {s : St} {th : Int} (a : Mdl h s th) (e : ∀ q, 120 ≤ q → q ≠ 133 → h'.1[q]? = h.1[q]?) : Mdl h' s th := by
  obtain ⟨⟨lk, pa, sp, fi, se, o⟩, a1, ⟨g2, a2, e2⟩, ⟨g3, a3, e3⟩, a4, ⟨g5, a5⟩, ⟨⟨g6, a6⟩, ⟨g7, a7⟩, ⟨g8, a8⟩, g9, a9⟩, aT, ⟨gC, aC⟩, gB, aB⟩ := a
  exact ⟨⟨lk, pa, sp, fi, se, (e 120 (by decide) (by decide)).trans o⟩, a1.tr (e 121 (by decide) (by decide)), ⟨g2, a2.tr (e 122 (by decide) (by decide)), e2⟩, ⟨g3, a3.tr (e 123 (by decide) (by decide)), e3⟩, a4.tr (e 124 (by decide) (by decide)), ⟨g5, a5.tr (e 125 (by decide) (by decide))⟩, ⟨⟨g6, a6.tr (e 126 (by decide) (by decide))⟩, ⟨g7, a7.tr (e 127 (by decide) (by decide))⟩, ⟨g8, a8.tr (e 128 (by decide) (by decide))⟩, g9, a9.tr (e 129 (by decide) (by decide))⟩, aT.tr (e 130 (by decide) (by decide)), ⟨gC, aC.tr (e 131 (by decide) (by decide))⟩, gB, aB.tr (e 132 (by decide) (by decide))⟩
/-- a number of the script -/
def sx (xs : Nat → Int32) (z : Int) : Int := (xs z.toNat).toInt
theorem sx_in {xs : Nat → Int32} {z : Int} : inI (sx xs z) := iI_in _
theorem ax_sldO {d pc : Nat} {ls st : List Value} {h : am_H} {Q : am_R → am_H → Prop} {z : Int} {L : Nat} {xs : Nat → Int32} (hf : am_tab 0 pc = some (.iaload, 1, 0, 0, 0, .null)) (hs : h.2.2 = (L, xs)) (h1 : 0 ≤ z) (h2 : z < L) (hn : L ≤ 60000) (k : am_X d 0 (pc + 1) ls (.int (iI (sx xs z)) :: st) h Q) : am_X d 0 pc ls (.int (iI z) :: .retAddr 0 :: st) h Q := by
  have e1 : h.2.2.1 = L := by rw [hs]
  have e2 : h.2.2.2 = xs := by rw [hs]
  refine ax_sld hf h1 (by rw [e1]; exact h2) (by rw [e1]; exact hn) ?_
  rw [e2, iI_of (xs z.toNat)]
  exact k
def WR (h : am_H) (kd v : Int) (s : St) (h' : am_H) : Prop := Cls h' s ∧ (∃ g, oL h' 133 1 g ∧ (kd = 0 → g 0 = (iI v).toInt64)) ∧ (∀ q, 120 ≤ q → q ≠ 133 → h'.1[q]? = h.1[q]?) ∧ (h'.1.length = h.1.length ∧ h'.2.2 = h.2.2 ∧ h'.2.1.1 ≤ h.2.1.1 + 1 ∧ h'.2.1.2 ≤ h.2.1.2 + 6)
theorem Wout_x {d m pc : Nat} {ls st : List Value} {h h0 : am_H} {kd v : Int} {s : St} (q : am_X d m pc ls st h (Wout h0 kd v s)) : am_X d m pc ls st h (fun r h' => rI r kd ∧ WR h0 kd v s h') := q
theorem Mot_x {d m pc : Nat} {ls st : List Value} {h h0 : am_H} {th v : Int} {s : St} (q : am_X d m pc ls st h (Mot h0 v th s)) : am_X d m pc ls st h (fun r h' => rI r v ∧ (Mdl h' s th ∧ fr (fun x => 120 ≤ x ∧ x ≤ 132) h0 h')) := q
/-- the end of a call in the law's loop -/
def LK (L : Nat) (xs : Nat → Int32) (i : Int) (N1 N2 : Nat) (Q : am_R → am_H → Prop) : Prop := ∀ {h' : am_H} {s' : St} {th' : Int} {g' : Int → Int64} {x5 x6 : Value}, okS s' → Cls h' s' → Mdl h' s' th' → oL h' 133 1 g' → h'.2.2 = (L, xs) → h'.2.1.1 ≤ N1 + 1 → h'.2.1.2 ≤ N2 + 6 → am_X 100 0 1661 [.retAddr 0, .ref 0, .ref 120, .ref 133, .int (iI i), x5, x6] [] h' Q
theorem law_0 {h : am_H} {R : Int → Int} {S : Int → Int → Int} {c : Int} {G : Nat → Int → Int} {b0 : Int → Int} {T : Int → Int} {L0 : Int} {th : Int} {g : Int → Int64} {L : Nat} {xs : Nat → Int32} {i : Int} {N1 N2 : Nat} {Q : am_R → am_H → Prop} {x5 x6 : Value} (k : okS (R, S, c, G, b0, T, L0)) (a : Cls h (R, S, c, G, b0, T, L0)) (b : Mdl h (R, S, c, G, b0, T, L0) th) (ol : oL h 133 1 g) (hs : h.2.2 = (L, xs)) (n1 : h.2.1.1 ≤ N1) (n2 : h.2.1.2 ≤ N2) (hi : 0 ≤ i ∧ i + 4 ≤ L ∧ L ≤ 2048) (K : LK L xs i N1 N2 Q) : am_X 100 0 160 [.retAddr 0, .ref 0, .ref 120, .ref 133, .int (iI i), x5, x6] [] h Q := by
  obtain ⟨kd, v, s', ok', hk, w, mdl⟩ := e_1 k (z := (sx xs (i + 1))) sx_in
  refine ax_aload_n f0_160 rfl ?_
  refine ax_aload_nS f0_161 rfl ?_
  refine ax_iload f0_162 rfl ?_
  refine ax_iconst f0_164 ?_
  refine ax_iadd f0_165 ?_
  refine ax_sldO f0_166 hs (by omega) (by omega) (by omega) ?_
  refine ax_aload_n f0_167 rfl ?_
  refine ax_csI (rest := []) f0_168 (Or.inr (Or.inr rfl)) rfl rfl rfl rfl rfl rfl (Wout_x (w a ol)) ?_
  rintro h1 ⟨a, ⟨g1, ol, e1⟩, fq, hl1, hs1, p1, p2⟩
  have b := Mdl_tr b fq
  have hs := hs1.trans hs
  obtain ⟨v', ev, mm⟩ := mdl b
  obtain ⟨⟨_, _, _, _, _, ho1⟩, _⟩ := id b
  refine ax_istore (ls' := [_, _, _, _, _, _, _]) f0_171 (Nat.le_of_ble_eq_true rfl) rfl ?_
  refine ax_aload_n f0_173 rfl ?_
  refine ax_aload_nS f0_174 rfl ?_
  refine ax_iload f0_175 rfl ?_
  refine ax_iconst f0_177 ?_
  refine ax_iadd f0_178 ?_
  refine ax_sldO f0_179 hs (by omega) (by omega) (by omega) ?_
  refine ax_cvI (rest := []) f0_180 ho1 rfl rfl rfl rfl rfl rfl rfl rfl (Mot_x mm) ?_
  rintro h2 ⟨b, f2⟩
  have a := Cls_mv a f2 (fun q hq => by omega)
  have ol := ol.fr f2 (by omega)
  have f22 := f2.2.1
  have hs := (congrArg Prod.snd f22).trans hs
  have hc2 := congrArg Prod.fst f22
  have p1 : h2.2.1.1 ≤ N1 + 1 := by rw [hc2]; omega
  have p2 : h2.2.1.2 ≤ N2 + 6 := by rw [hc2]; omega
  obtain ⟨⟨_, _, _, _, _, ho2⟩, _⟩ := id b
  refine ax_istore (ls' := [_, _, _, _, _, _, _]) f0_183 (Nat.le_of_ble_eq_true rfl) rfl ?_
  refine ax_aload_n f0_185 rfl ?_
  refine ax_cvI (rest := []) f0_186 ho2 rfl rfl rfl rfl rfl rfl rfl rfl (c_143 (R := R) ho2) ?_
  intro _ e_
  obtain rfl := e_.symm
  clear e_
  refine ax_iload f0_189 rfl ?_
  refine ax_icmp_eq f0_191 rfl ⟨by omega, by omega⟩ ⟨by omega, by omega⟩ (fun q191 => ?_) (fun q191 => absurd q191 (by omega))
  refine ax_iload f0_196 rfl ?_
  refine ax_if_ne f0_198 rfl ⟨by omega, by omega⟩ (fun q198 => ?_) (fun q198 => ?_)
  · refine ax_goto f0_213 rfl ?_
    exact K ok' a b ol hs p1 p2
  · refine ax_aload_n f0_201 rfl ?_
    refine ax_iconst f0_202 ?_
    refine ax_laldO f0_203 ol (by omega) (by omega) rfl ?_
    rw [e1 (by omega)]
    refine ax_iload f0_204 rfl ?_
    rw [ev (by omega)]
    refine ax_i2l f0_206 ?_
    refine ax_lcmpz f0_207 ?_
    refine ax_if_eq f0_208 rfl (lcz_in _ _) (fun q208 => ?_) (fun q208 => ?_)
    · refine ax_goto f0_213 rfl ?_
      exact K ok' a b ol hs p1 p2
    · exact absurd (lcz_0.mpr rfl) q208
theorem law_1 {h : am_H} {R : Int → Int} {S : Int → Int → Int} {c : Int} {G : Nat → Int → Int} {b0 : Int → Int} {T : Int → Int} {L0 : Int} {th : Int} {g : Int → Int64} {L : Nat} {xs : Nat → Int32} {i : Int} {N1 N2 : Nat} {Q : am_R → am_H → Prop} {x5 x6 : Value} (k : okS (R, S, c, G, b0, T, L0)) (a : Cls h (R, S, c, G, b0, T, L0)) (b : Mdl h (R, S, c, G, b0, T, L0) th) (ol : oL h 133 1 g) (hs : h.2.2 = (L, xs)) (n1 : h.2.1.1 ≤ N1) (n2 : h.2.1.2 ≤ N2) (hi : 0 ≤ i ∧ i + 4 ≤ L ∧ L ≤ 2048) (K : LK L xs i N1 N2 Q) : am_X 100 0 216 [.retAddr 0, .ref 0, .ref 120, .ref 133, .int (iI i), x5, x6] [] h Q := by
  obtain ⟨v, s', ok', hv, w, mdl⟩ := d_1 k
  refine ax_aload_n f0_216 rfl ?_
  refine ax_cvI (rest := []) f0_217 a.1 rfl rfl rfl rfl rfl rfl rfl rfl (w a) ?_
  rintro h1 ⟨a, f1⟩
  have b := Mdl_tr b (fun q q1 q2 => f1.2.2 q (by unfold FC; omega))
  have ol := ol.fr f1 (by unfold FC; omega)
  have hs := (congrArg Prod.snd f1.2.1).trans hs
  have hc1 := congrArg Prod.fst f1.2.1
  obtain ⟨⟨_, _, _, _, _, ho1⟩, _⟩ := id b
  refine ax_aload_n f0_220 rfl ?_
  refine ax_cvI (rest := [_]) f0_221 ho1 rfl rfl rfl rfl rfl rfl rfl rfl (mdl b) ?_
  rintro h2 ⟨b, f2⟩
  have a := Cls_mv a f2 (fun q hq => by omega)
  have ol := ol.fr f2 (by omega)
  have f22 := f2.2.1
  have hs := (congrArg Prod.snd f22).trans hs
  have hc2 := (congrArg Prod.fst f22).trans hc1
  have p1 : h2.2.1.1 ≤ N1 + 1 := by rw [hc2]; omega
  have p2 : h2.2.1.2 ≤ N2 + 6 := by rw [hc2]; omega
  refine ax_icmp_eq f0_224 rfl hv hv (fun q224 => ?_) (fun q224 => absurd q224 (by omega))
  exact K ok' a b ol hs p1 p2
theorem law_2 {h : am_H} {R : Int → Int} {S : Int → Int → Int} {c : Int} {G : Nat → Int → Int} {b0 : Int → Int} {T : Int → Int} {L0 : Int} {th : Int} {g : Int → Int64} {L : Nat} {xs : Nat → Int32} {i : Int} {N1 N2 : Nat} {Q : am_R → am_H → Prop} {x5 x6 : Value} (k : okS (R, S, c, G, b0, T, L0)) (a : Cls h (R, S, c, G, b0, T, L0)) (b : Mdl h (R, S, c, G, b0, T, L0) th) (ol : oL h 133 1 g) (hs : h.2.2 = (L, xs)) (n1 : h.2.1.1 ≤ N1) (n2 : h.2.1.2 ≤ N2) (hi : 0 ≤ i ∧ i + 4 ≤ L ∧ L ≤ 2048) (K : LK L xs i N1 N2 Q) : am_X 100 0 229 [.retAddr 0, .ref 0, .ref 120, .ref 133, .int (iI i), x5, x6] [] h Q := by
  obtain ⟨v, s', ok', hv, w, mdl⟩ := d_2 k
  refine ax_aload_n f0_229 rfl ?_
  refine ax_cvI (rest := []) f0_230 a.1 rfl rfl rfl rfl rfl rfl rfl rfl (w a) ?_
  rintro h1 ⟨a, f1⟩
  have b := Mdl_tr b (fun q q1 q2 => f1.2.2 q (by unfold FC; omega))
  have ol := ol.fr f1 (by unfold FC; omega)
  have hs := (congrArg Prod.snd f1.2.1).trans hs
  have hc1 := congrArg Prod.fst f1.2.1
  obtain ⟨⟨_, _, _, _, _, ho1⟩, _⟩ := id b
  refine ax_aload_n f0_233 rfl ?_
  refine ax_cvI (rest := [_]) f0_234 ho1 rfl rfl rfl rfl rfl rfl rfl rfl (mdl b) ?_
  rintro h2 ⟨b, f2⟩
  have a := Cls_mv a f2 (fun q hq => by omega)
  have ol := ol.fr f2 (by omega)
  have f22 := f2.2.1
  have hs := (congrArg Prod.snd f22).trans hs
  have hc2 := (congrArg Prod.fst f22).trans hc1
  have p1 : h2.2.1.1 ≤ N1 + 1 := by rw [hc2]; omega
  have p2 : h2.2.1.2 ≤ N2 + 6 := by rw [hc2]; omega
  refine ax_icmp_eq f0_237 rfl hv hv (fun q237 => ?_) (fun q237 => absurd q237 (by omega))
  exact K ok' a b ol hs p1 p2
theorem law_3 {h : am_H} {R : Int → Int} {S : Int → Int → Int} {c : Int} {G : Nat → Int → Int} {b0 : Int → Int} {T : Int → Int} {L0 : Int} {th : Int} {g : Int → Int64} {L : Nat} {xs : Nat → Int32} {i : Int} {N1 N2 : Nat} {Q : am_R → am_H → Prop} {x5 x6 : Value} (k : okS (R, S, c, G, b0, T, L0)) (a : Cls h (R, S, c, G, b0, T, L0)) (b : Mdl h (R, S, c, G, b0, T, L0) th) (ol : oL h 133 1 g) (hs : h.2.2 = (L, xs)) (n1 : h.2.1.1 ≤ N1) (n2 : h.2.1.2 ≤ N2) (hi : 0 ≤ i ∧ i + 4 ≤ L ∧ L ≤ 2048) (K : LK L xs i N1 N2 Q) : am_X 100 0 242 [.retAddr 0, .ref 0, .ref 120, .ref 133, .int (iI i), x5, x6] [] h Q := by
  obtain ⟨kd, v, s', ok', hk, w, mdl⟩ := e_2 k 
  refine ax_aload_n f0_242 rfl ?_
  refine ax_aload_n f0_243 rfl ?_
  refine ax_csI (rest := []) f0_244 (Or.inr (Or.inr rfl)) rfl rfl rfl rfl rfl rfl (Wout_x (w a ol)) ?_
  rintro h1 ⟨a, ⟨g1, ol, e1⟩, fq, hl1, hs1, p1, p2⟩
  have b := Mdl_tr b fq
  have hs := hs1.trans hs
  obtain ⟨v', ev, mm⟩ := mdl b
  obtain ⟨⟨_, _, _, _, _, ho1⟩, _⟩ := id b
  refine ax_istore (ls' := [_, _, _, _, _, _, _]) f0_247 (Nat.le_of_ble_eq_true rfl) rfl ?_
  refine ax_aload_n f0_249 rfl ?_
  refine ax_cvI (rest := []) f0_250 ho1 rfl rfl rfl rfl rfl rfl rfl rfl (Mot_x mm) ?_
  rintro h2 ⟨b, f2⟩
  have a := Cls_mv a f2 (fun q hq => by omega)
  have ol := ol.fr f2 (by omega)
  have f22 := f2.2.1
  have hs := (congrArg Prod.snd f22).trans hs
  have hc2 := congrArg Prod.fst f22
  have p1 : h2.2.1.1 ≤ N1 + 1 := by rw [hc2]; omega
  have p2 : h2.2.1.2 ≤ N2 + 6 := by rw [hc2]; omega
  obtain ⟨⟨_, _, _, _, _, ho2⟩, _⟩ := id b
  refine ax_istore (ls' := [_, _, _, _, _, _, _]) f0_253 (Nat.le_of_ble_eq_true rfl) rfl ?_
  refine ax_aload_n f0_255 rfl ?_
  refine ax_cvI (rest := []) f0_256 ho2 rfl rfl rfl rfl rfl rfl rfl rfl (c_143 (R := R) ho2) ?_
  intro _ e_
  obtain rfl := e_.symm
  clear e_
  refine ax_iload f0_259 rfl ?_
  refine ax_icmp_eq f0_261 rfl ⟨by omega, by omega⟩ ⟨by omega, by omega⟩ (fun q261 => ?_) (fun q261 => absurd q261 (by omega))
  refine ax_iload f0_266 rfl ?_
  refine ax_if_ne f0_268 rfl ⟨by omega, by omega⟩ (fun q268 => ?_) (fun q268 => ?_)
  · refine ax_goto f0_283 rfl ?_
    exact K ok' a b ol hs p1 p2
  · refine ax_aload_n f0_271 rfl ?_
    refine ax_iconst f0_272 ?_
    refine ax_laldO f0_273 ol (by omega) (by omega) rfl ?_
    rw [e1 (by omega)]
    refine ax_iload f0_274 rfl ?_
    rw [ev (by omega)]
    refine ax_i2l f0_276 ?_
    refine ax_lcmpz f0_277 ?_
    refine ax_if_eq f0_278 rfl (lcz_in _ _) (fun q278 => ?_) (fun q278 => ?_)
    · refine ax_goto f0_283 rfl ?_
      exact K ok' a b ol hs p1 p2
    · exact absurd (lcz_0.mpr rfl) q278
theorem law_4 {h : am_H} {R : Int → Int} {S : Int → Int → Int} {c : Int} {G : Nat → Int → Int} {b0 : Int → Int} {T : Int → Int} {L0 : Int} {th : Int} {g : Int → Int64} {L : Nat} {xs : Nat → Int32} {i : Int} {N1 N2 : Nat} {Q : am_R → am_H → Prop} {x5 x6 : Value} (k : okS (R, S, c, G, b0, T, L0)) (a : Cls h (R, S, c, G, b0, T, L0)) (b : Mdl h (R, S, c, G, b0, T, L0) th) (ol : oL h 133 1 g) (hs : h.2.2 = (L, xs)) (n1 : h.2.1.1 ≤ N1) (n2 : h.2.1.2 ≤ N2) (hi : 0 ≤ i ∧ i + 4 ≤ L ∧ L ≤ 2048) (K : LK L xs i N1 N2 Q) : am_X 100 0 286 [.retAddr 0, .ref 0, .ref 120, .ref 133, .int (iI i), x5, x6] [] h Q := by
  obtain ⟨kd, v, s', ok', hk, w, mdl⟩ := e_3 k (z := (sx xs (i + 1))) sx_in
  refine ax_aload_n f0_286 rfl ?_
  refine ax_aload_nS f0_287 rfl ?_
  refine ax_iload f0_288 rfl ?_
  refine ax_iconst f0_290 ?_
  refine ax_iadd f0_291 ?_
  refine ax_sldO f0_292 hs (by omega) (by omega) (by omega) ?_
  refine ax_aload_n f0_293 rfl ?_
  refine ax_csI (rest := []) f0_294 (Or.inr (Or.inr rfl)) rfl rfl rfl rfl rfl rfl (Wout_x (w a ol)) ?_
  rintro h1 ⟨a, ⟨g1, ol, e1⟩, fq, hl1, hs1, p1, p2⟩
  have b := Mdl_tr b fq
  have hs := hs1.trans hs
  obtain ⟨v', ev, mm⟩ := mdl b
  obtain ⟨⟨_, _, _, _, _, ho1⟩, _⟩ := id b
  refine ax_istore (ls' := [_, _, _, _, _, _, _]) f0_297 (Nat.le_of_ble_eq_true rfl) rfl ?_
  refine ax_aload_n f0_299 rfl ?_
  refine ax_aload_nS f0_300 rfl ?_
  refine ax_iload f0_301 rfl ?_
  refine ax_iconst f0_303 ?_
  refine ax_iadd f0_304 ?_
  refine ax_sldO f0_305 hs (by omega) (by omega) (by omega) ?_
  refine ax_cvI (rest := []) f0_306 ho1 rfl rfl rfl rfl rfl rfl rfl rfl (Mot_x mm) ?_
  rintro h2 ⟨b, f2⟩
  have a := Cls_mv a f2 (fun q hq => by omega)
  have ol := ol.fr f2 (by omega)
  have f22 := f2.2.1
  have hs := (congrArg Prod.snd f22).trans hs
  have hc2 := congrArg Prod.fst f22
  have p1 : h2.2.1.1 ≤ N1 + 1 := by rw [hc2]; omega
  have p2 : h2.2.1.2 ≤ N2 + 6 := by rw [hc2]; omega
  obtain ⟨⟨_, _, _, _, _, ho2⟩, _⟩ := id b
  refine ax_istore (ls' := [_, _, _, _, _, _, _]) f0_309 (Nat.le_of_ble_eq_true rfl) rfl ?_
  refine ax_aload_n f0_311 rfl ?_
  refine ax_cvI (rest := []) f0_312 ho2 rfl rfl rfl rfl rfl rfl rfl rfl (c_143 (R := R) ho2) ?_
  intro _ e_
  obtain rfl := e_.symm
  clear e_
  refine ax_iload f0_315 rfl ?_
  refine ax_icmp_eq f0_317 rfl ⟨by omega, by omega⟩ ⟨by omega, by omega⟩ (fun q317 => ?_) (fun q317 => absurd q317 (by omega))
  refine ax_iload f0_322 rfl ?_
  refine ax_if_ne f0_324 rfl ⟨by omega, by omega⟩ (fun q324 => ?_) (fun q324 => ?_)
  · refine ax_goto f0_339 rfl ?_
    exact K ok' a b ol hs p1 p2
  · refine ax_aload_n f0_327 rfl ?_
    refine ax_iconst f0_328 ?_
    refine ax_laldO f0_329 ol (by omega) (by omega) rfl ?_
    rw [e1 (by omega)]
    refine ax_iload f0_330 rfl ?_
    rw [ev (by omega)]
    refine ax_i2l f0_332 ?_
    refine ax_lcmpz f0_333 ?_
    refine ax_if_eq f0_334 rfl (lcz_in _ _) (fun q334 => ?_) (fun q334 => ?_)
    · refine ax_goto f0_339 rfl ?_
      exact K ok' a b ol hs p1 p2
    · exact absurd (lcz_0.mpr rfl) q334
theorem law_5 {h : am_H} {R : Int → Int} {S : Int → Int → Int} {c : Int} {G : Nat → Int → Int} {b0 : Int → Int} {T : Int → Int} {L0 : Int} {th : Int} {g : Int → Int64} {L : Nat} {xs : Nat → Int32} {i : Int} {N1 N2 : Nat} {Q : am_R → am_H → Prop} {x5 x6 : Value} (k : okS (R, S, c, G, b0, T, L0)) (a : Cls h (R, S, c, G, b0, T, L0)) (b : Mdl h (R, S, c, G, b0, T, L0) th) (ol : oL h 133 1 g) (hs : h.2.2 = (L, xs)) (n1 : h.2.1.1 ≤ N1) (n2 : h.2.1.2 ≤ N2) (hi : 0 ≤ i ∧ i + 4 ≤ L ∧ L ≤ 2048) (K : LK L xs i N1 N2 Q) : am_X 100 0 342 [.retAddr 0, .ref 0, .ref 120, .ref 133, .int (iI i), x5, x6] [] h Q := by
  obtain ⟨kd, v, s', ok', hk, w, mdl⟩ := e_4 k (r0 := (sx xs (i + 1))) (z := (sx xs (i + 2))) sx_in sx_in
  refine ax_aload_n f0_342 rfl ?_
  refine ax_aload_nS f0_343 rfl ?_
  refine ax_iload f0_344 rfl ?_
  refine ax_iconst f0_346 ?_
  refine ax_iadd f0_347 ?_
  refine ax_sldO f0_348 hs (by omega) (by omega) (by omega) ?_
  refine ax_aload_nS f0_349 rfl ?_
  refine ax_iload f0_350 rfl ?_
  refine ax_iconst f0_352 ?_
  refine ax_iadd f0_353 ?_
  refine ax_sldO f0_354 hs (by omega) (by omega) (by omega) ?_
  refine ax_aload_n f0_355 rfl ?_
  refine ax_csI (rest := []) f0_356 (Or.inr (Or.inr rfl)) rfl rfl rfl rfl rfl rfl (Wout_x (w a ol)) ?_
  rintro h1 ⟨a, ⟨g1, ol, e1⟩, fq, hl1, hs1, p1, p2⟩
  have b := Mdl_tr b fq
  have hs := hs1.trans hs
  obtain ⟨v', ev, mm⟩ := mdl b
  obtain ⟨⟨_, _, _, _, _, ho1⟩, _⟩ := id b
  refine ax_istore (ls' := [_, _, _, _, _, _, _]) f0_359 (Nat.le_of_ble_eq_true rfl) rfl ?_
  refine ax_aload_n f0_361 rfl ?_
  refine ax_aload_nS f0_362 rfl ?_
  refine ax_iload f0_363 rfl ?_
  refine ax_iconst f0_365 ?_
  refine ax_iadd f0_366 ?_
  refine ax_sldO f0_367 hs (by omega) (by omega) (by omega) ?_
  refine ax_aload_nS f0_368 rfl ?_
  refine ax_iload f0_369 rfl ?_
  refine ax_iconst f0_371 ?_
  refine ax_iadd f0_372 ?_
  refine ax_sldO f0_373 hs (by omega) (by omega) (by omega) ?_
  refine ax_cvI (rest := []) f0_374 ho1 rfl rfl rfl rfl rfl rfl rfl rfl (Mot_x mm) ?_
  rintro h2 ⟨b, f2⟩
  have a := Cls_mv a f2 (fun q hq => by omega)
  have ol := ol.fr f2 (by omega)
  have f22 := f2.2.1
  have hs := (congrArg Prod.snd f22).trans hs
  have hc2 := congrArg Prod.fst f22
  have p1 : h2.2.1.1 ≤ N1 + 1 := by rw [hc2]; omega
  have p2 : h2.2.1.2 ≤ N2 + 6 := by rw [hc2]; omega
  obtain ⟨⟨_, _, _, _, _, ho2⟩, _⟩ := id b
  refine ax_istore (ls' := [_, _, _, _, _, _, _]) f0_377 (Nat.le_of_ble_eq_true rfl) rfl ?_
  refine ax_aload_n f0_379 rfl ?_
  refine ax_cvI (rest := []) f0_380 ho2 rfl rfl rfl rfl rfl rfl rfl rfl (c_143 (R := R) ho2) ?_
  intro _ e_
  obtain rfl := e_.symm
  clear e_
  refine ax_iload f0_383 rfl ?_
  refine ax_icmp_eq f0_385 rfl ⟨by omega, by omega⟩ ⟨by omega, by omega⟩ (fun q385 => ?_) (fun q385 => absurd q385 (by omega))
  refine ax_iload f0_390 rfl ?_
  refine ax_if_ne f0_392 rfl ⟨by omega, by omega⟩ (fun q392 => ?_) (fun q392 => ?_)
  · refine ax_goto f0_407 rfl ?_
    exact K ok' a b ol hs p1 p2
  · refine ax_aload_n f0_395 rfl ?_
    refine ax_iconst f0_396 ?_
    refine ax_laldO f0_397 ol (by omega) (by omega) rfl ?_
    rw [e1 (by omega)]
    refine ax_iload f0_398 rfl ?_
    rw [ev (by omega)]
    refine ax_i2l f0_400 ?_
    refine ax_lcmpz f0_401 ?_
    refine ax_if_eq f0_402 rfl (lcz_in _ _) (fun q402 => ?_) (fun q402 => ?_)
    · refine ax_goto f0_407 rfl ?_
      exact K ok' a b ol hs p1 p2
    · exact absurd (lcz_0.mpr rfl) q402
theorem law_6 {h : am_H} {R : Int → Int} {S : Int → Int → Int} {c : Int} {G : Nat → Int → Int} {b0 : Int → Int} {T : Int → Int} {L0 : Int} {th : Int} {g : Int → Int64} {L : Nat} {xs : Nat → Int32} {i : Int} {N1 N2 : Nat} {Q : am_R → am_H → Prop} {x5 x6 : Value} (k : okS (R, S, c, G, b0, T, L0)) (a : Cls h (R, S, c, G, b0, T, L0)) (b : Mdl h (R, S, c, G, b0, T, L0) th) (ol : oL h 133 1 g) (hs : h.2.2 = (L, xs)) (n1 : h.2.1.1 ≤ N1) (n2 : h.2.1.2 ≤ N2) (hi : 0 ≤ i ∧ i + 4 ≤ L ∧ L ≤ 2048) (K : LK L xs i N1 N2 Q) : am_X 100 0 410 [.retAddr 0, .ref 0, .ref 120, .ref 133, .int (iI i), x5, x6] [] h Q := by
  obtain ⟨kd, v, s', ok', hk, w, mdl⟩ := e_5 k (n := (sx xs (i + 1))) (z := (sx xs (i + 2))) sx_in sx_in
  refine ax_aload_n f0_410 rfl ?_
  refine ax_aload_nS f0_411 rfl ?_
  refine ax_iload f0_412 rfl ?_
  refine ax_iconst f0_414 ?_
  refine ax_iadd f0_415 ?_
  refine ax_sldO f0_416 hs (by omega) (by omega) (by omega) ?_
  refine ax_aload_nS f0_417 rfl ?_
  refine ax_iload f0_418 rfl ?_
  refine ax_iconst f0_420 ?_
  refine ax_iadd f0_421 ?_
  refine ax_sldO f0_422 hs (by omega) (by omega) (by omega) ?_
  refine ax_aload_n f0_423 rfl ?_
  refine ax_csI (rest := []) f0_424 (Or.inr (Or.inr rfl)) rfl rfl rfl rfl rfl rfl (Wout_x (w a ol)) ?_
  rintro h1 ⟨a, ⟨g1, ol, e1⟩, fq, hl1, hs1, p1, p2⟩
  have b := Mdl_tr b fq
  have hs := hs1.trans hs
  obtain ⟨v', ev, mm⟩ := mdl b
  obtain ⟨⟨_, _, _, _, _, ho1⟩, _⟩ := id b
  refine ax_istore (ls' := [_, _, _, _, _, _, _]) f0_427 (Nat.le_of_ble_eq_true rfl) rfl ?_
  refine ax_aload_n f0_429 rfl ?_
  refine ax_aload_nS f0_430 rfl ?_
  refine ax_iload f0_431 rfl ?_
  refine ax_iconst f0_433 ?_
  refine ax_iadd f0_434 ?_
  refine ax_sldO f0_435 hs (by omega) (by omega) (by omega) ?_
  refine ax_aload_nS f0_436 rfl ?_
  refine ax_iload f0_437 rfl ?_
  refine ax_iconst f0_439 ?_
  refine ax_iadd f0_440 ?_
  refine ax_sldO f0_441 hs (by omega) (by omega) (by omega) ?_
  refine ax_cvI (rest := []) f0_442 ho1 rfl rfl rfl rfl rfl rfl rfl rfl (Mot_x mm) ?_
  rintro h2 ⟨b, f2⟩
  have a := Cls_mv a f2 (fun q hq => by omega)
  have ol := ol.fr f2 (by omega)
  have f22 := f2.2.1
  have hs := (congrArg Prod.snd f22).trans hs
  have hc2 := congrArg Prod.fst f22
  have p1 : h2.2.1.1 ≤ N1 + 1 := by rw [hc2]; omega
  have p2 : h2.2.1.2 ≤ N2 + 6 := by rw [hc2]; omega
  obtain ⟨⟨_, _, _, _, _, ho2⟩, _⟩ := id b
  refine ax_istore (ls' := [_, _, _, _, _, _, _]) f0_445 (Nat.le_of_ble_eq_true rfl) rfl ?_
  refine ax_aload_n f0_447 rfl ?_
  refine ax_cvI (rest := []) f0_448 ho2 rfl rfl rfl rfl rfl rfl rfl rfl (c_143 (R := R) ho2) ?_
  intro _ e_
  obtain rfl := e_.symm
  clear e_
  refine ax_iload f0_451 rfl ?_
  refine ax_icmp_eq f0_453 rfl ⟨by omega, by omega⟩ ⟨by omega, by omega⟩ (fun q453 => ?_) (fun q453 => absurd q453 (by omega))
  refine ax_iload f0_458 rfl ?_
  refine ax_if_ne f0_460 rfl ⟨by omega, by omega⟩ (fun q460 => ?_) (fun q460 => ?_)
  · refine ax_goto f0_475 rfl ?_
    exact K ok' a b ol hs p1 p2
  · refine ax_aload_n f0_463 rfl ?_
    refine ax_iconst f0_464 ?_
    refine ax_laldO f0_465 ol (by omega) (by omega) rfl ?_
    rw [e1 (by omega)]
    refine ax_iload f0_466 rfl ?_
    rw [ev (by omega)]
    refine ax_i2l f0_468 ?_
    refine ax_lcmpz f0_469 ?_
    refine ax_if_eq f0_470 rfl (lcz_in _ _) (fun q470 => ?_) (fun q470 => ?_)
    · refine ax_goto f0_475 rfl ?_
      exact K ok' a b ol hs p1 p2
    · exact absurd (lcz_0.mpr rfl) q470
theorem law_7 {h : am_H} {R : Int → Int} {S : Int → Int → Int} {c : Int} {G : Nat → Int → Int} {b0 : Int → Int} {T : Int → Int} {L0 : Int} {th : Int} {g : Int → Int64} {L : Nat} {xs : Nat → Int32} {i : Int} {N1 N2 : Nat} {Q : am_R → am_H → Prop} {x5 x6 : Value} (k : okS (R, S, c, G, b0, T, L0)) (a : Cls h (R, S, c, G, b0, T, L0)) (b : Mdl h (R, S, c, G, b0, T, L0) th) (ol : oL h 133 1 g) (hs : h.2.2 = (L, xs)) (n1 : h.2.1.1 ≤ N1) (n2 : h.2.1.2 ≤ N2) (hi : 0 ≤ i ∧ i + 4 ≤ L ∧ L ≤ 2048) (K : LK L xs i N1 N2 Q) : am_X 100 0 478 [.retAddr 0, .ref 0, .ref 120, .ref 133, .int (iI i), x5, x6] [] h Q := by
  obtain ⟨kd, v, s', ok', hk, w, mdl⟩ := e_6 k (r0 := (sx xs (i + 1))) (v := (sx xs (i + 2))) sx_in sx_in
  refine ax_aload_n f0_478 rfl ?_
  refine ax_aload_nS f0_479 rfl ?_
  refine ax_iload f0_480 rfl ?_
  refine ax_iconst f0_482 ?_
  refine ax_iadd f0_483 ?_
  refine ax_sldO f0_484 hs (by omega) (by omega) (by omega) ?_
  refine ax_aload_nS f0_485 rfl ?_
  refine ax_iload f0_486 rfl ?_
  refine ax_iconst f0_488 ?_
  refine ax_iadd f0_489 ?_
  refine ax_sldO f0_490 hs (by omega) (by omega) (by omega) ?_
  refine ax_aload_n f0_491 rfl ?_
  refine ax_csI (rest := []) f0_492 (Or.inr (Or.inr rfl)) rfl rfl rfl rfl rfl rfl (Wout_x (w a ol)) ?_
  rintro h1 ⟨a, ⟨g1, ol, e1⟩, fq, hl1, hs1, p1, p2⟩
  have b := Mdl_tr b fq
  have hs := hs1.trans hs
  obtain ⟨v', ev, mm⟩ := mdl b
  obtain ⟨⟨_, _, _, _, _, ho1⟩, _⟩ := id b
  refine ax_istore (ls' := [_, _, _, _, _, _, _]) f0_495 (Nat.le_of_ble_eq_true rfl) rfl ?_
  refine ax_aload_n f0_497 rfl ?_
  refine ax_aload_nS f0_498 rfl ?_
  refine ax_iload f0_499 rfl ?_
  refine ax_iconst f0_501 ?_
  refine ax_iadd f0_502 ?_
  refine ax_sldO f0_503 hs (by omega) (by omega) (by omega) ?_
  refine ax_aload_nS f0_504 rfl ?_
  refine ax_iload f0_505 rfl ?_
  refine ax_iconst f0_507 ?_
  refine ax_iadd f0_508 ?_
  refine ax_sldO f0_509 hs (by omega) (by omega) (by omega) ?_
  refine ax_cvI (rest := []) f0_510 ho1 rfl rfl rfl rfl rfl rfl rfl rfl (Mot_x mm) ?_
  rintro h2 ⟨b, f2⟩
  have a := Cls_mv a f2 (fun q hq => by omega)
  have ol := ol.fr f2 (by omega)
  have f22 := f2.2.1
  have hs := (congrArg Prod.snd f22).trans hs
  have hc2 := congrArg Prod.fst f22
  have p1 : h2.2.1.1 ≤ N1 + 1 := by rw [hc2]; omega
  have p2 : h2.2.1.2 ≤ N2 + 6 := by rw [hc2]; omega
  obtain ⟨⟨_, _, _, _, _, ho2⟩, _⟩ := id b
  refine ax_istore (ls' := [_, _, _, _, _, _, _]) f0_513 (Nat.le_of_ble_eq_true rfl) rfl ?_
  refine ax_aload_n f0_515 rfl ?_
  refine ax_cvI (rest := []) f0_516 ho2 rfl rfl rfl rfl rfl rfl rfl rfl (c_143 (R := R) ho2) ?_
  intro _ e_
  obtain rfl := e_.symm
  clear e_
  refine ax_iload f0_519 rfl ?_
  refine ax_icmp_eq f0_521 rfl ⟨by omega, by omega⟩ ⟨by omega, by omega⟩ (fun q521 => ?_) (fun q521 => absurd q521 (by omega))
  refine ax_iload f0_526 rfl ?_
  refine ax_if_ne f0_528 rfl ⟨by omega, by omega⟩ (fun q528 => ?_) (fun q528 => ?_)
  · refine ax_goto f0_543 rfl ?_
    exact K ok' a b ol hs p1 p2
  · refine ax_aload_n f0_531 rfl ?_
    refine ax_iconst f0_532 ?_
    refine ax_laldO f0_533 ol (by omega) (by omega) rfl ?_
    rw [e1 (by omega)]
    refine ax_iload f0_534 rfl ?_
    rw [ev (by omega)]
    refine ax_i2l f0_536 ?_
    refine ax_lcmpz f0_537 ?_
    refine ax_if_eq f0_538 rfl (lcz_in _ _) (fun q538 => ?_) (fun q538 => ?_)
    · refine ax_goto f0_543 rfl ?_
      exact K ok' a b ol hs p1 p2
    · exact absurd (lcz_0.mpr rfl) q538
theorem law_8 {h : am_H} {R : Int → Int} {S : Int → Int → Int} {c : Int} {G : Nat → Int → Int} {b0 : Int → Int} {T : Int → Int} {L0 : Int} {th : Int} {g : Int → Int64} {L : Nat} {xs : Nat → Int32} {i : Int} {N1 N2 : Nat} {Q : am_R → am_H → Prop} {x5 x6 : Value} (k : okS (R, S, c, G, b0, T, L0)) (a : Cls h (R, S, c, G, b0, T, L0)) (b : Mdl h (R, S, c, G, b0, T, L0) th) (ol : oL h 133 1 g) (hs : h.2.2 = (L, xs)) (n1 : h.2.1.1 ≤ N1) (n2 : h.2.1.2 ≤ N2) (hi : 0 ≤ i ∧ i + 4 ≤ L ∧ L ≤ 2048) (K : LK L xs i N1 N2 Q) : am_X 100 0 546 [.retAddr 0, .ref 0, .ref 120, .ref 133, .int (iI i), x5, x6] [] h Q := by
  have hx2 := sx_in (xs := xs) (z := i + 2)
  obtain ⟨hx3, hx4⟩ := hx2
  by_cases hy : sx xs (i + 2) = 0
  · obtain ⟨kd, v, s', ok', hk, w, mdl⟩ := e_7 k (r0 := (sx xs (i + 1))) (y := 0) sx_in (by omega)
    refine ax_aload_n f0_546 rfl ?_
    refine ax_aload_nS f0_547 rfl ?_
    refine ax_iload f0_548 rfl ?_
    refine ax_iconst f0_550 ?_
    refine ax_iadd f0_551 ?_
    refine ax_sldO f0_552 hs (by omega) (by omega) (by omega) ?_
    refine ax_aload_nS f0_553 rfl ?_
    refine ax_iload f0_554 rfl ?_
    refine ax_iconst f0_556 ?_
    refine ax_iadd f0_557 ?_
    refine ax_sldO f0_558 hs (by omega) (by omega) (by omega) ?_
    refine ax_if_eq f0_559 rfl ⟨by omega, by omega⟩ (fun q559 => ?_) (fun q559 => absurd q559 (by omega))
    refine ax_iconst f0_566 ?_
    refine ax_aload_n f0_567 rfl ?_
    refine ax_csI (rest := []) f0_568 (Or.inr (Or.inr rfl)) rfl rfl rfl rfl rfl rfl (Wout_x (w a ol)) ?_
    rintro h1 ⟨a, ⟨g1, ol, e1⟩, fq, hl1, hs1, p1, p2⟩
    have b := Mdl_tr b fq
    have hs := hs1.trans hs
    obtain ⟨v', ev, mm⟩ := mdl b
    obtain ⟨⟨_, _, _, _, _, ho1⟩, _⟩ := id b
    refine ax_istore (ls' := [_, _, _, _, _, _, _]) f0_571 (Nat.le_of_ble_eq_true rfl) rfl ?_
    refine ax_aload_n f0_573 rfl ?_
    refine ax_aload_nS f0_574 rfl ?_
    refine ax_iload f0_575 rfl ?_
    refine ax_iconst f0_577 ?_
    refine ax_iadd f0_578 ?_
    refine ax_sldO f0_579 hs (by omega) (by omega) (by omega) ?_
    refine ax_aload_nS f0_580 rfl ?_
    refine ax_iload f0_581 rfl ?_
    refine ax_iconst f0_583 ?_
    refine ax_iadd f0_584 ?_
    refine ax_sldO f0_585 hs (by omega) (by omega) (by omega) ?_
    refine ax_if_eq f0_586 rfl ⟨by omega, by omega⟩ (fun q586 => ?_) (fun q586 => absurd q586 (by omega))
    refine ax_iconst f0_593 ?_
    refine ax_cvI (rest := []) f0_594 ho1 rfl rfl rfl rfl rfl rfl rfl rfl (Mot_x mm) ?_
    rintro h2 ⟨b, f2⟩
    have a := Cls_mv a f2 (fun q hq => by omega)
    have ol := ol.fr f2 (by omega)
    have f22 := f2.2.1
    have hs := (congrArg Prod.snd f22).trans hs
    have hc2 := congrArg Prod.fst f22
    have p1 : h2.2.1.1 ≤ N1 + 1 := by rw [hc2]; omega
    have p2 : h2.2.1.2 ≤ N2 + 6 := by rw [hc2]; omega
    obtain ⟨⟨_, _, _, _, _, ho2⟩, _⟩ := id b
    refine ax_istore (ls' := [_, _, _, _, _, _, _]) f0_597 (Nat.le_of_ble_eq_true rfl) rfl ?_
    refine ax_aload_n f0_599 rfl ?_
    refine ax_cvI (rest := []) f0_600 ho2 rfl rfl rfl rfl rfl rfl rfl rfl (c_143 (R := R) ho2) ?_
    intro _ e_
    obtain rfl := e_.symm
    clear e_
    refine ax_iload f0_603 rfl ?_
    refine ax_icmp_eq f0_605 rfl ⟨by omega, by omega⟩ ⟨by omega, by omega⟩ (fun q605 => ?_) (fun q605 => absurd q605 (by omega))
    refine ax_iload f0_610 rfl ?_
    refine ax_if_ne f0_612 rfl ⟨by omega, by omega⟩ (fun q612 => ?_) (fun q612 => ?_)
    · refine ax_goto f0_627 rfl ?_
      exact K ok' a b ol hs p1 p2
    · refine ax_aload_n f0_615 rfl ?_
      refine ax_iconst f0_616 ?_
      refine ax_laldO f0_617 ol (by omega) (by omega) rfl ?_
      rw [e1 (by omega)]
      refine ax_iload f0_618 rfl ?_
      rw [ev (by omega)]
      refine ax_i2l f0_620 ?_
      refine ax_lcmpz f0_621 ?_
      refine ax_if_eq f0_622 rfl (lcz_in _ _) (fun q622 => ?_) (fun q622 => ?_)
      · refine ax_goto f0_627 rfl ?_
        exact K ok' a b ol hs p1 p2
      · exact absurd (lcz_0.mpr rfl) q622
  · obtain ⟨kd, v, s', ok', hk, w, mdl⟩ := e_7 k (r0 := (sx xs (i + 1))) (y := 1) sx_in (by omega)
    refine ax_aload_n f0_546 rfl ?_
    refine ax_aload_nS f0_547 rfl ?_
    refine ax_iload f0_548 rfl ?_
    refine ax_iconst f0_550 ?_
    refine ax_iadd f0_551 ?_
    refine ax_sldO f0_552 hs (by omega) (by omega) (by omega) ?_
    refine ax_aload_nS f0_553 rfl ?_
    refine ax_iload f0_554 rfl ?_
    refine ax_iconst f0_556 ?_
    refine ax_iadd f0_557 ?_
    refine ax_sldO f0_558 hs (by omega) (by omega) (by omega) ?_
    refine ax_if_eq f0_559 rfl ⟨by omega, by omega⟩ (fun q559 => absurd q559 (by omega)) (fun q559 => ?_)
    refine ax_iconst f0_562 ?_
    refine ax_goto f0_563 rfl ?_
    refine ax_aload_n f0_567 rfl ?_
    refine ax_csI (rest := []) f0_568 (Or.inr (Or.inr rfl)) rfl rfl rfl rfl rfl rfl (Wout_x (w a ol)) ?_
    rintro h1 ⟨a, ⟨g1, ol, e1⟩, fq, hl1, hs1, p1, p2⟩
    have b := Mdl_tr b fq
    have hs := hs1.trans hs
    obtain ⟨v', ev, mm⟩ := mdl b
    obtain ⟨⟨_, _, _, _, _, ho1⟩, _⟩ := id b
    refine ax_istore (ls' := [_, _, _, _, _, _, _]) f0_571 (Nat.le_of_ble_eq_true rfl) rfl ?_
    refine ax_aload_n f0_573 rfl ?_
    refine ax_aload_nS f0_574 rfl ?_
    refine ax_iload f0_575 rfl ?_
    refine ax_iconst f0_577 ?_
    refine ax_iadd f0_578 ?_
    refine ax_sldO f0_579 hs (by omega) (by omega) (by omega) ?_
    refine ax_aload_nS f0_580 rfl ?_
    refine ax_iload f0_581 rfl ?_
    refine ax_iconst f0_583 ?_
    refine ax_iadd f0_584 ?_
    refine ax_sldO f0_585 hs (by omega) (by omega) (by omega) ?_
    refine ax_if_eq f0_586 rfl ⟨by omega, by omega⟩ (fun q586 => absurd q586 (by omega)) (fun q586 => ?_)
    refine ax_iconst f0_589 ?_
    refine ax_goto f0_590 rfl ?_
    refine ax_cvI (rest := []) f0_594 ho1 rfl rfl rfl rfl rfl rfl rfl rfl (Mot_x mm) ?_
    rintro h2 ⟨b, f2⟩
    have a := Cls_mv a f2 (fun q hq => by omega)
    have ol := ol.fr f2 (by omega)
    have f22 := f2.2.1
    have hs := (congrArg Prod.snd f22).trans hs
    have hc2 := congrArg Prod.fst f22
    have p1 : h2.2.1.1 ≤ N1 + 1 := by rw [hc2]; omega
    have p2 : h2.2.1.2 ≤ N2 + 6 := by rw [hc2]; omega
    obtain ⟨⟨_, _, _, _, _, ho2⟩, _⟩ := id b
    refine ax_istore (ls' := [_, _, _, _, _, _, _]) f0_597 (Nat.le_of_ble_eq_true rfl) rfl ?_
    refine ax_aload_n f0_599 rfl ?_
    refine ax_cvI (rest := []) f0_600 ho2 rfl rfl rfl rfl rfl rfl rfl rfl (c_143 (R := R) ho2) ?_
    intro _ e_
    obtain rfl := e_.symm
    clear e_
    refine ax_iload f0_603 rfl ?_
    refine ax_icmp_eq f0_605 rfl ⟨by omega, by omega⟩ ⟨by omega, by omega⟩ (fun q605 => ?_) (fun q605 => absurd q605 (by omega))
    refine ax_iload f0_610 rfl ?_
    refine ax_if_ne f0_612 rfl ⟨by omega, by omega⟩ (fun q612 => ?_) (fun q612 => ?_)
    · refine ax_goto f0_627 rfl ?_
      exact K ok' a b ol hs p1 p2
    · refine ax_aload_n f0_615 rfl ?_
      refine ax_iconst f0_616 ?_
      refine ax_laldO f0_617 ol (by omega) (by omega) rfl ?_
      rw [e1 (by omega)]
      refine ax_iload f0_618 rfl ?_
      rw [ev (by omega)]
      refine ax_i2l f0_620 ?_
      refine ax_lcmpz f0_621 ?_
      refine ax_if_eq f0_622 rfl (lcz_in _ _) (fun q622 => ?_) (fun q622 => ?_)
      · refine ax_goto f0_627 rfl ?_
        exact K ok' a b ol hs p1 p2
      · exact absurd (lcz_0.mpr rfl) q622
theorem law_9 {h : am_H} {R : Int → Int} {S : Int → Int → Int} {c : Int} {G : Nat → Int → Int} {b0 : Int → Int} {T : Int → Int} {L0 : Int} {th : Int} {g : Int → Int64} {L : Nat} {xs : Nat → Int32} {i : Int} {N1 N2 : Nat} {Q : am_R → am_H → Prop} {x5 x6 : Value} (k : okS (R, S, c, G, b0, T, L0)) (a : Cls h (R, S, c, G, b0, T, L0)) (b : Mdl h (R, S, c, G, b0, T, L0) th) (ol : oL h 133 1 g) (hs : h.2.2 = (L, xs)) (n1 : h.2.1.1 ≤ N1) (n2 : h.2.1.2 ≤ N2) (hi : 0 ≤ i ∧ i + 4 ≤ L ∧ L ≤ 2048) (K : LK L xs i N1 N2 Q) : am_X 100 0 630 [.retAddr 0, .ref 0, .ref 120, .ref 133, .int (iI i), x5, x6] [] h Q := by
  have hx2 := sx_in (xs := xs) (z := i + 2)
  obtain ⟨hx3, hx4⟩ := hx2
  by_cases hy : sx xs (i + 2) = 0
  · obtain ⟨kd, v, s', ok', hk, w, mdl⟩ := e_8 k (r0 := (sx xs (i + 1))) (y := 0) sx_in (by omega)
    refine ax_aload_n f0_630 rfl ?_
    refine ax_aload_nS f0_631 rfl ?_
    refine ax_iload f0_632 rfl ?_
    refine ax_iconst f0_634 ?_
    refine ax_iadd f0_635 ?_
    refine ax_sldO f0_636 hs (by omega) (by omega) (by omega) ?_
    refine ax_aload_nS f0_637 rfl ?_
    refine ax_iload f0_638 rfl ?_
    refine ax_iconst f0_640 ?_
    refine ax_iadd f0_641 ?_
    refine ax_sldO f0_642 hs (by omega) (by omega) (by omega) ?_
    refine ax_if_eq f0_643 rfl ⟨by omega, by omega⟩ (fun q643 => ?_) (fun q643 => absurd q643 (by omega))
    refine ax_iconst f0_650 ?_
    refine ax_aload_n f0_651 rfl ?_
    refine ax_csI (rest := []) f0_652 (Or.inr (Or.inr rfl)) rfl rfl rfl rfl rfl rfl (Wout_x (w a ol)) ?_
    rintro h1 ⟨a, ⟨g1, ol, e1⟩, fq, hl1, hs1, p1, p2⟩
    have b := Mdl_tr b fq
    have hs := hs1.trans hs
    obtain ⟨v', ev, mm⟩ := mdl b
    obtain ⟨⟨_, _, _, _, _, ho1⟩, _⟩ := id b
    refine ax_istore (ls' := [_, _, _, _, _, _, _]) f0_655 (Nat.le_of_ble_eq_true rfl) rfl ?_
    refine ax_aload_n f0_657 rfl ?_
    refine ax_aload_nS f0_658 rfl ?_
    refine ax_iload f0_659 rfl ?_
    refine ax_iconst f0_661 ?_
    refine ax_iadd f0_662 ?_
    refine ax_sldO f0_663 hs (by omega) (by omega) (by omega) ?_
    refine ax_aload_nS f0_664 rfl ?_
    refine ax_iload f0_665 rfl ?_
    refine ax_iconst f0_667 ?_
    refine ax_iadd f0_668 ?_
    refine ax_sldO f0_669 hs (by omega) (by omega) (by omega) ?_
    refine ax_if_eq f0_670 rfl ⟨by omega, by omega⟩ (fun q670 => ?_) (fun q670 => absurd q670 (by omega))
    refine ax_iconst f0_677 ?_
    refine ax_cvI (rest := []) f0_678 ho1 rfl rfl rfl rfl rfl rfl rfl rfl (Mot_x mm) ?_
    rintro h2 ⟨b, f2⟩
    have a := Cls_mv a f2 (fun q hq => by omega)
    have ol := ol.fr f2 (by omega)
    have f22 := f2.2.1
    have hs := (congrArg Prod.snd f22).trans hs
    have hc2 := congrArg Prod.fst f22
    have p1 : h2.2.1.1 ≤ N1 + 1 := by rw [hc2]; omega
    have p2 : h2.2.1.2 ≤ N2 + 6 := by rw [hc2]; omega
    obtain ⟨⟨_, _, _, _, _, ho2⟩, _⟩ := id b
    refine ax_istore (ls' := [_, _, _, _, _, _, _]) f0_681 (Nat.le_of_ble_eq_true rfl) rfl ?_
    refine ax_aload_n f0_683 rfl ?_
    refine ax_cvI (rest := []) f0_684 ho2 rfl rfl rfl rfl rfl rfl rfl rfl (c_143 (R := R) ho2) ?_
    intro _ e_
    obtain rfl := e_.symm
    clear e_
    refine ax_iload f0_687 rfl ?_
    refine ax_icmp_eq f0_689 rfl ⟨by omega, by omega⟩ ⟨by omega, by omega⟩ (fun q689 => ?_) (fun q689 => absurd q689 (by omega))
    refine ax_iload f0_694 rfl ?_
    refine ax_if_ne f0_696 rfl ⟨by omega, by omega⟩ (fun q696 => ?_) (fun q696 => ?_)
    · refine ax_goto f0_711 rfl ?_
      exact K ok' a b ol hs p1 p2
    · refine ax_aload_n f0_699 rfl ?_
      refine ax_iconst f0_700 ?_
      refine ax_laldO f0_701 ol (by omega) (by omega) rfl ?_
      rw [e1 (by omega)]
      refine ax_iload f0_702 rfl ?_
      rw [ev (by omega)]
      refine ax_i2l f0_704 ?_
      refine ax_lcmpz f0_705 ?_
      refine ax_if_eq f0_706 rfl (lcz_in _ _) (fun q706 => ?_) (fun q706 => ?_)
      · refine ax_goto f0_711 rfl ?_
        exact K ok' a b ol hs p1 p2
      · exact absurd (lcz_0.mpr rfl) q706
  · obtain ⟨kd, v, s', ok', hk, w, mdl⟩ := e_8 k (r0 := (sx xs (i + 1))) (y := 1) sx_in (by omega)
    refine ax_aload_n f0_630 rfl ?_
    refine ax_aload_nS f0_631 rfl ?_
    refine ax_iload f0_632 rfl ?_
    refine ax_iconst f0_634 ?_
    refine ax_iadd f0_635 ?_
    refine ax_sldO f0_636 hs (by omega) (by omega) (by omega) ?_
    refine ax_aload_nS f0_637 rfl ?_
    refine ax_iload f0_638 rfl ?_
    refine ax_iconst f0_640 ?_
    refine ax_iadd f0_641 ?_
    refine ax_sldO f0_642 hs (by omega) (by omega) (by omega) ?_
    refine ax_if_eq f0_643 rfl ⟨by omega, by omega⟩ (fun q643 => absurd q643 (by omega)) (fun q643 => ?_)
    refine ax_iconst f0_646 ?_
    refine ax_goto f0_647 rfl ?_
    refine ax_aload_n f0_651 rfl ?_
    refine ax_csI (rest := []) f0_652 (Or.inr (Or.inr rfl)) rfl rfl rfl rfl rfl rfl (Wout_x (w a ol)) ?_
    rintro h1 ⟨a, ⟨g1, ol, e1⟩, fq, hl1, hs1, p1, p2⟩
    have b := Mdl_tr b fq
    have hs := hs1.trans hs
    obtain ⟨v', ev, mm⟩ := mdl b
    obtain ⟨⟨_, _, _, _, _, ho1⟩, _⟩ := id b
    refine ax_istore (ls' := [_, _, _, _, _, _, _]) f0_655 (Nat.le_of_ble_eq_true rfl) rfl ?_
    refine ax_aload_n f0_657 rfl ?_
    refine ax_aload_nS f0_658 rfl ?_
    refine ax_iload f0_659 rfl ?_
    refine ax_iconst f0_661 ?_
    refine ax_iadd f0_662 ?_
    refine ax_sldO f0_663 hs (by omega) (by omega) (by omega) ?_
    refine ax_aload_nS f0_664 rfl ?_
    refine ax_iload f0_665 rfl ?_
    refine ax_iconst f0_667 ?_
    refine ax_iadd f0_668 ?_
    refine ax_sldO f0_669 hs (by omega) (by omega) (by omega) ?_
    refine ax_if_eq f0_670 rfl ⟨by omega, by omega⟩ (fun q670 => absurd q670 (by omega)) (fun q670 => ?_)
    refine ax_iconst f0_673 ?_
    refine ax_goto f0_674 rfl ?_
    refine ax_cvI (rest := []) f0_678 ho1 rfl rfl rfl rfl rfl rfl rfl rfl (Mot_x mm) ?_
    rintro h2 ⟨b, f2⟩
    have a := Cls_mv a f2 (fun q hq => by omega)
    have ol := ol.fr f2 (by omega)
    have f22 := f2.2.1
    have hs := (congrArg Prod.snd f22).trans hs
    have hc2 := congrArg Prod.fst f22
    have p1 : h2.2.1.1 ≤ N1 + 1 := by rw [hc2]; omega
    have p2 : h2.2.1.2 ≤ N2 + 6 := by rw [hc2]; omega
    obtain ⟨⟨_, _, _, _, _, ho2⟩, _⟩ := id b
    refine ax_istore (ls' := [_, _, _, _, _, _, _]) f0_681 (Nat.le_of_ble_eq_true rfl) rfl ?_
    refine ax_aload_n f0_683 rfl ?_
    refine ax_cvI (rest := []) f0_684 ho2 rfl rfl rfl rfl rfl rfl rfl rfl (c_143 (R := R) ho2) ?_
    intro _ e_
    obtain rfl := e_.symm
    clear e_
    refine ax_iload f0_687 rfl ?_
    refine ax_icmp_eq f0_689 rfl ⟨by omega, by omega⟩ ⟨by omega, by omega⟩ (fun q689 => ?_) (fun q689 => absurd q689 (by omega))
    refine ax_iload f0_694 rfl ?_
    refine ax_if_ne f0_696 rfl ⟨by omega, by omega⟩ (fun q696 => ?_) (fun q696 => ?_)
    · refine ax_goto f0_711 rfl ?_
      exact K ok' a b ol hs p1 p2
    · refine ax_aload_n f0_699 rfl ?_
      refine ax_iconst f0_700 ?_
      refine ax_laldO f0_701 ol (by omega) (by omega) rfl ?_
      rw [e1 (by omega)]
      refine ax_iload f0_702 rfl ?_
      rw [ev (by omega)]
      refine ax_i2l f0_704 ?_
      refine ax_lcmpz f0_705 ?_
      refine ax_if_eq f0_706 rfl (lcz_in _ _) (fun q706 => ?_) (fun q706 => ?_)
      · refine ax_goto f0_711 rfl ?_
        exact K ok' a b ol hs p1 p2
      · exact absurd (lcz_0.mpr rfl) q706
theorem law_10 {h : am_H} {R : Int → Int} {S : Int → Int → Int} {c : Int} {G : Nat → Int → Int} {b0 : Int → Int} {T : Int → Int} {L0 : Int} {th : Int} {g : Int → Int64} {L : Nat} {xs : Nat → Int32} {i : Int} {N1 N2 : Nat} {Q : am_R → am_H → Prop} {x5 x6 : Value} (k : okS (R, S, c, G, b0, T, L0)) (a : Cls h (R, S, c, G, b0, T, L0)) (b : Mdl h (R, S, c, G, b0, T, L0) th) (ol : oL h 133 1 g) (hs : h.2.2 = (L, xs)) (n1 : h.2.1.1 ≤ N1) (n2 : h.2.1.2 ≤ N2) (hi : 0 ≤ i ∧ i + 4 ≤ L ∧ L ≤ 2048) (K : LK L xs i N1 N2 Q) : am_X 100 0 714 [.retAddr 0, .ref 0, .ref 120, .ref 133, .int (iI i), x5, x6] [] h Q := by
  obtain ⟨kd, v, s', ok', hk, w, mdl⟩ := e_9 k (n := (sx xs (i + 1))) sx_in
  refine ax_aload_n f0_714 rfl ?_
  refine ax_aload_nS f0_715 rfl ?_
  refine ax_iload f0_716 rfl ?_
  refine ax_iconst f0_718 ?_
  refine ax_iadd f0_719 ?_
  refine ax_sldO f0_720 hs (by omega) (by omega) (by omega) ?_
  refine ax_aload_n f0_721 rfl ?_
  refine ax_csI (rest := []) f0_722 (Or.inr (Or.inr rfl)) rfl rfl rfl rfl rfl rfl (Wout_x (w a ol)) ?_
  rintro h1 ⟨a, ⟨g1, ol, e1⟩, fq, hl1, hs1, p1, p2⟩
  have b := Mdl_tr b fq
  have hs := hs1.trans hs
  obtain ⟨v', ev, mm⟩ := mdl b
  obtain ⟨⟨_, _, _, _, _, ho1⟩, _⟩ := id b
  refine ax_istore (ls' := [_, _, _, _, _, _, _]) f0_725 (Nat.le_of_ble_eq_true rfl) rfl ?_
  refine ax_aload_n f0_727 rfl ?_
  refine ax_aload_nS f0_728 rfl ?_
  refine ax_iload f0_729 rfl ?_
  refine ax_iconst f0_731 ?_
  refine ax_iadd f0_732 ?_
  refine ax_sldO f0_733 hs (by omega) (by omega) (by omega) ?_
  refine ax_cvI (rest := []) f0_734 ho1 rfl rfl rfl rfl rfl rfl rfl rfl (Mot_x mm) ?_
  rintro h2 ⟨b, f2⟩
  have a := Cls_mv a f2 (fun q hq => by omega)
  have ol := ol.fr f2 (by omega)
  have f22 := f2.2.1
  have hs := (congrArg Prod.snd f22).trans hs
  have hc2 := congrArg Prod.fst f22
  have p1 : h2.2.1.1 ≤ N1 + 1 := by rw [hc2]; omega
  have p2 : h2.2.1.2 ≤ N2 + 6 := by rw [hc2]; omega
  obtain ⟨⟨_, _, _, _, _, ho2⟩, _⟩ := id b
  refine ax_istore (ls' := [_, _, _, _, _, _, _]) f0_737 (Nat.le_of_ble_eq_true rfl) rfl ?_
  refine ax_aload_n f0_739 rfl ?_
  refine ax_cvI (rest := []) f0_740 ho2 rfl rfl rfl rfl rfl rfl rfl rfl (c_143 (R := R) ho2) ?_
  intro _ e_
  obtain rfl := e_.symm
  clear e_
  refine ax_iload f0_743 rfl ?_
  refine ax_icmp_eq f0_745 rfl ⟨by omega, by omega⟩ ⟨by omega, by omega⟩ (fun q745 => ?_) (fun q745 => absurd q745 (by omega))
  refine ax_iload f0_750 rfl ?_
  refine ax_if_ne f0_752 rfl ⟨by omega, by omega⟩ (fun q752 => ?_) (fun q752 => ?_)
  · refine ax_goto f0_767 rfl ?_
    exact K ok' a b ol hs p1 p2
  · refine ax_aload_n f0_755 rfl ?_
    refine ax_iconst f0_756 ?_
    refine ax_laldO f0_757 ol (by omega) (by omega) rfl ?_
    rw [e1 (by omega)]
    refine ax_iload f0_758 rfl ?_
    rw [ev (by omega)]
    refine ax_i2l f0_760 ?_
    refine ax_lcmpz f0_761 ?_
    refine ax_if_eq f0_762 rfl (lcz_in _ _) (fun q762 => ?_) (fun q762 => ?_)
    · refine ax_goto f0_767 rfl ?_
      exact K ok' a b ol hs p1 p2
    · exact absurd (lcz_0.mpr rfl) q762
theorem law_11 {h : am_H} {R : Int → Int} {S : Int → Int → Int} {c : Int} {G : Nat → Int → Int} {b0 : Int → Int} {T : Int → Int} {L0 : Int} {th : Int} {g : Int → Int64} {L : Nat} {xs : Nat → Int32} {i : Int} {N1 N2 : Nat} {Q : am_R → am_H → Prop} {x5 x6 : Value} (k : okS (R, S, c, G, b0, T, L0)) (a : Cls h (R, S, c, G, b0, T, L0)) (b : Mdl h (R, S, c, G, b0, T, L0) th) (ol : oL h 133 1 g) (hs : h.2.2 = (L, xs)) (n1 : h.2.1.1 ≤ N1) (n2 : h.2.1.2 ≤ N2) (hi : 0 ≤ i ∧ i + 4 ≤ L ∧ L ≤ 2048) (K : LK L xs i N1 N2 Q) : am_X 100 0 770 [.retAddr 0, .ref 0, .ref 120, .ref 133, .int (iI i), x5, x6] [] h Q := by
  obtain ⟨kd, v, s', ok', hk, w, mdl⟩ := e_10 k (n := (sx xs (i + 1))) (v := (sx xs (i + 2))) sx_in sx_in
  refine ax_aload_n f0_770 rfl ?_
  refine ax_aload_nS f0_771 rfl ?_
  refine ax_iload f0_772 rfl ?_
  refine ax_iconst f0_774 ?_
  refine ax_iadd f0_775 ?_
  refine ax_sldO f0_776 hs (by omega) (by omega) (by omega) ?_
  refine ax_aload_nS f0_777 rfl ?_
  refine ax_iload f0_778 rfl ?_
  refine ax_iconst f0_780 ?_
  refine ax_iadd f0_781 ?_
  refine ax_sldO f0_782 hs (by omega) (by omega) (by omega) ?_
  refine ax_aload_n f0_783 rfl ?_
  refine ax_csI (rest := []) f0_784 (Or.inr (Or.inr rfl)) rfl rfl rfl rfl rfl rfl (Wout_x (w a ol)) ?_
  rintro h1 ⟨a, ⟨g1, ol, e1⟩, fq, hl1, hs1, p1, p2⟩
  have b := Mdl_tr b fq
  have hs := hs1.trans hs
  obtain ⟨v', ev, mm⟩ := mdl b
  obtain ⟨⟨_, _, _, _, _, ho1⟩, _⟩ := id b
  refine ax_istore (ls' := [_, _, _, _, _, _, _]) f0_787 (Nat.le_of_ble_eq_true rfl) rfl ?_
  refine ax_aload_n f0_789 rfl ?_
  refine ax_aload_nS f0_790 rfl ?_
  refine ax_iload f0_791 rfl ?_
  refine ax_iconst f0_793 ?_
  refine ax_iadd f0_794 ?_
  refine ax_sldO f0_795 hs (by omega) (by omega) (by omega) ?_
  refine ax_aload_nS f0_796 rfl ?_
  refine ax_iload f0_797 rfl ?_
  refine ax_iconst f0_799 ?_
  refine ax_iadd f0_800 ?_
  refine ax_sldO f0_801 hs (by omega) (by omega) (by omega) ?_
  refine ax_cvI (rest := []) f0_802 ho1 rfl rfl rfl rfl rfl rfl rfl rfl (Mot_x mm) ?_
  rintro h2 ⟨b, f2⟩
  have a := Cls_mv a f2 (fun q hq => by omega)
  have ol := ol.fr f2 (by omega)
  have f22 := f2.2.1
  have hs := (congrArg Prod.snd f22).trans hs
  have hc2 := congrArg Prod.fst f22
  have p1 : h2.2.1.1 ≤ N1 + 1 := by rw [hc2]; omega
  have p2 : h2.2.1.2 ≤ N2 + 6 := by rw [hc2]; omega
  obtain ⟨⟨_, _, _, _, _, ho2⟩, _⟩ := id b
  refine ax_istore (ls' := [_, _, _, _, _, _, _]) f0_805 (Nat.le_of_ble_eq_true rfl) rfl ?_
  refine ax_aload_n f0_807 rfl ?_
  refine ax_cvI (rest := []) f0_808 ho2 rfl rfl rfl rfl rfl rfl rfl rfl (c_143 (R := R) ho2) ?_
  intro _ e_
  obtain rfl := e_.symm
  clear e_
  refine ax_iload f0_811 rfl ?_
  refine ax_icmp_eq f0_813 rfl ⟨by omega, by omega⟩ ⟨by omega, by omega⟩ (fun q813 => ?_) (fun q813 => absurd q813 (by omega))
  refine ax_iload f0_818 rfl ?_
  refine ax_if_ne f0_820 rfl ⟨by omega, by omega⟩ (fun q820 => ?_) (fun q820 => ?_)
  · refine ax_goto f0_835 rfl ?_
    exact K ok' a b ol hs p1 p2
  · refine ax_aload_n f0_823 rfl ?_
    refine ax_iconst f0_824 ?_
    refine ax_laldO f0_825 ol (by omega) (by omega) rfl ?_
    rw [e1 (by omega)]
    refine ax_iload f0_826 rfl ?_
    rw [ev (by omega)]
    refine ax_i2l f0_828 ?_
    refine ax_lcmpz f0_829 ?_
    refine ax_if_eq f0_830 rfl (lcz_in _ _) (fun q830 => ?_) (fun q830 => ?_)
    · refine ax_goto f0_835 rfl ?_
      exact K ok' a b ol hs p1 p2
    · exact absurd (lcz_0.mpr rfl) q830
theorem law_12 {h : am_H} {R : Int → Int} {S : Int → Int → Int} {c : Int} {G : Nat → Int → Int} {b0 : Int → Int} {T : Int → Int} {L0 : Int} {th : Int} {g : Int → Int64} {L : Nat} {xs : Nat → Int32} {i : Int} {N1 N2 : Nat} {Q : am_R → am_H → Prop} {x5 x6 : Value} (k : okS (R, S, c, G, b0, T, L0)) (a : Cls h (R, S, c, G, b0, T, L0)) (b : Mdl h (R, S, c, G, b0, T, L0) th) (ol : oL h 133 1 g) (hs : h.2.2 = (L, xs)) (n1 : h.2.1.1 ≤ N1) (n2 : h.2.1.2 ≤ N2) (hi : 0 ≤ i ∧ i + 4 ≤ L ∧ L ≤ 2048) (K : LK L xs i N1 N2 Q) : am_X 100 0 838 [.retAddr 0, .ref 0, .ref 120, .ref 133, .int (iI i), x5, x6] [] h Q := by
  obtain ⟨v, s', ok', hv, w, mdl⟩ := d_12 k
  refine ax_aload_n f0_838 rfl ?_
  refine ax_cvI (rest := []) f0_839 a.1 rfl rfl rfl rfl rfl rfl rfl rfl (w a) ?_
  rintro h1 ⟨a, f1⟩
  have b := Mdl_tr b (fun q q1 q2 => f1.2.2 q (by unfold FC; omega))
  have ol := ol.fr f1 (by unfold FC; omega)
  have hs := (congrArg Prod.snd f1.2.1).trans hs
  have hc1 := congrArg Prod.fst f1.2.1
  obtain ⟨⟨_, _, _, _, _, ho1⟩, _⟩ := id b
  refine ax_aload_n f0_842 rfl ?_
  refine ax_cvI (rest := [_]) f0_843 ho1 rfl rfl rfl rfl rfl rfl rfl rfl (mdl b) ?_
  rintro h2 ⟨b, f2⟩
  have a := Cls_mv a f2 (fun q hq => by omega)
  have ol := ol.fr f2 (by omega)
  have f22 := f2.2.1
  have hs := (congrArg Prod.snd f22).trans hs
  have hc2 := (congrArg Prod.fst f22).trans hc1
  have p1 : h2.2.1.1 ≤ N1 + 1 := by rw [hc2]; omega
  have p2 : h2.2.1.2 ≤ N2 + 6 := by rw [hc2]; omega
  refine ax_icmp_eq f0_846 rfl hv hv (fun q846 => ?_) (fun q846 => absurd q846 (by omega))
  exact K ok' a b ol hs p1 p2
theorem law_13 {h : am_H} {R : Int → Int} {S : Int → Int → Int} {c : Int} {G : Nat → Int → Int} {b0 : Int → Int} {T : Int → Int} {L0 : Int} {th : Int} {g : Int → Int64} {L : Nat} {xs : Nat → Int32} {i : Int} {N1 N2 : Nat} {Q : am_R → am_H → Prop} {x5 x6 : Value} (k : okS (R, S, c, G, b0, T, L0)) (a : Cls h (R, S, c, G, b0, T, L0)) (b : Mdl h (R, S, c, G, b0, T, L0) th) (ol : oL h 133 1 g) (hs : h.2.2 = (L, xs)) (n1 : h.2.1.1 ≤ N1) (n2 : h.2.1.2 ≤ N2) (hi : 0 ≤ i ∧ i + 4 ≤ L ∧ L ≤ 2048) (K : LK L xs i N1 N2 Q) : am_X 100 0 851 [.retAddr 0, .ref 0, .ref 120, .ref 133, .int (iI i), x5, x6] [] h Q := by
  obtain ⟨kd, v, s', ok', hk, w, mdl⟩ := e_11 k (z := (sx xs (i + 1))) sx_in
  refine ax_aload_n f0_851 rfl ?_
  refine ax_aload_nS f0_852 rfl ?_
  refine ax_iload f0_853 rfl ?_
  refine ax_iconst f0_855 ?_
  refine ax_iadd f0_856 ?_
  refine ax_sldO f0_857 hs (by omega) (by omega) (by omega) ?_
  refine ax_aload_n f0_858 rfl ?_
  refine ax_csI (rest := []) f0_859 (Or.inr (Or.inr rfl)) rfl rfl rfl rfl rfl rfl (Wout_x (w a ol)) ?_
  rintro h1 ⟨a, ⟨g1, ol, e1⟩, fq, hl1, hs1, p1, p2⟩
  have b := Mdl_tr b fq
  have hs := hs1.trans hs
  obtain ⟨v', ev, mm⟩ := mdl b
  obtain ⟨⟨_, _, _, _, _, ho1⟩, _⟩ := id b
  refine ax_istore (ls' := [_, _, _, _, _, _, _]) f0_862 (Nat.le_of_ble_eq_true rfl) rfl ?_
  refine ax_aload_n f0_864 rfl ?_
  refine ax_aload_nS f0_865 rfl ?_
  refine ax_iload f0_866 rfl ?_
  refine ax_iconst f0_868 ?_
  refine ax_iadd f0_869 ?_
  refine ax_sldO f0_870 hs (by omega) (by omega) (by omega) ?_
  refine ax_cvI (rest := []) f0_871 ho1 rfl rfl rfl rfl rfl rfl rfl rfl (Mot_x mm) ?_
  rintro h2 ⟨b, f2⟩
  have a := Cls_mv a f2 (fun q hq => by omega)
  have ol := ol.fr f2 (by omega)
  have f22 := f2.2.1
  have hs := (congrArg Prod.snd f22).trans hs
  have hc2 := congrArg Prod.fst f22
  have p1 : h2.2.1.1 ≤ N1 + 1 := by rw [hc2]; omega
  have p2 : h2.2.1.2 ≤ N2 + 6 := by rw [hc2]; omega
  obtain ⟨⟨_, _, _, _, _, ho2⟩, _⟩ := id b
  refine ax_istore (ls' := [_, _, _, _, _, _, _]) f0_874 (Nat.le_of_ble_eq_true rfl) rfl ?_
  refine ax_aload_n f0_876 rfl ?_
  refine ax_cvI (rest := []) f0_877 ho2 rfl rfl rfl rfl rfl rfl rfl rfl (c_143 (R := R) ho2) ?_
  intro _ e_
  obtain rfl := e_.symm
  clear e_
  refine ax_iload f0_880 rfl ?_
  refine ax_icmp_eq f0_882 rfl ⟨by omega, by omega⟩ ⟨by omega, by omega⟩ (fun q882 => ?_) (fun q882 => absurd q882 (by omega))
  refine ax_iload f0_887 rfl ?_
  refine ax_if_ne f0_889 rfl ⟨by omega, by omega⟩ (fun q889 => ?_) (fun q889 => ?_)
  · refine ax_goto f0_904 rfl ?_
    exact K ok' a b ol hs p1 p2
  · refine ax_aload_n f0_892 rfl ?_
    refine ax_iconst f0_893 ?_
    refine ax_laldO f0_894 ol (by omega) (by omega) rfl ?_
    rw [e1 (by omega)]
    refine ax_iload f0_895 rfl ?_
    rw [ev (by omega)]
    refine ax_i2l f0_897 ?_
    refine ax_lcmpz f0_898 ?_
    refine ax_if_eq f0_899 rfl (lcz_in _ _) (fun q899 => ?_) (fun q899 => ?_)
    · refine ax_goto f0_904 rfl ?_
      exact K ok' a b ol hs p1 p2
    · exact absurd (lcz_0.mpr rfl) q899
theorem law_14 {h : am_H} {R : Int → Int} {S : Int → Int → Int} {c : Int} {G : Nat → Int → Int} {b0 : Int → Int} {T : Int → Int} {L0 : Int} {th : Int} {g : Int → Int64} {L : Nat} {xs : Nat → Int32} {i : Int} {N1 N2 : Nat} {Q : am_R → am_H → Prop} {x5 x6 : Value} (k : okS (R, S, c, G, b0, T, L0)) (a : Cls h (R, S, c, G, b0, T, L0)) (b : Mdl h (R, S, c, G, b0, T, L0) th) (ol : oL h 133 1 g) (hs : h.2.2 = (L, xs)) (n1 : h.2.1.1 ≤ N1) (n2 : h.2.1.2 ≤ N2) (hi : 0 ≤ i ∧ i + 4 ≤ L ∧ L ≤ 2048) (K : LK L xs i N1 N2 Q) : am_X 100 0 907 [.retAddr 0, .ref 0, .ref 120, .ref 133, .int (iI i), x5, x6] [] h Q := by
  obtain ⟨kd, v, s', ok', hk, w, mdl⟩ := e_12 k (v := (sx xs (i + 1))) sx_in
  refine ax_aload_n f0_907 rfl ?_
  refine ax_aload_nS f0_908 rfl ?_
  refine ax_iload f0_909 rfl ?_
  refine ax_iconst f0_911 ?_
  refine ax_iadd f0_912 ?_
  refine ax_sldO f0_913 hs (by omega) (by omega) (by omega) ?_
  refine ax_aload_n f0_914 rfl ?_
  refine ax_csI (rest := []) f0_915 (Or.inr (Or.inr rfl)) rfl rfl rfl rfl rfl rfl (Wout_x (w a ol)) ?_
  rintro h1 ⟨a, ⟨g1, ol, e1⟩, fq, hl1, hs1, p1, p2⟩
  have b := Mdl_tr b fq
  have hs := hs1.trans hs
  obtain ⟨v', ev, mm⟩ := mdl b
  obtain ⟨⟨_, _, _, _, _, ho1⟩, _⟩ := id b
  refine ax_istore (ls' := [_, _, _, _, _, _, _]) f0_918 (Nat.le_of_ble_eq_true rfl) rfl ?_
  refine ax_aload_n f0_920 rfl ?_
  refine ax_aload_nS f0_921 rfl ?_
  refine ax_iload f0_922 rfl ?_
  refine ax_iconst f0_924 ?_
  refine ax_iadd f0_925 ?_
  refine ax_sldO f0_926 hs (by omega) (by omega) (by omega) ?_
  refine ax_cvI (rest := []) f0_927 ho1 rfl rfl rfl rfl rfl rfl rfl rfl (Mot_x mm) ?_
  rintro h2 ⟨b, f2⟩
  have a := Cls_mv a f2 (fun q hq => by omega)
  have ol := ol.fr f2 (by omega)
  have f22 := f2.2.1
  have hs := (congrArg Prod.snd f22).trans hs
  have hc2 := congrArg Prod.fst f22
  have p1 : h2.2.1.1 ≤ N1 + 1 := by rw [hc2]; omega
  have p2 : h2.2.1.2 ≤ N2 + 6 := by rw [hc2]; omega
  obtain ⟨⟨_, _, _, _, _, ho2⟩, _⟩ := id b
  refine ax_istore (ls' := [_, _, _, _, _, _, _]) f0_930 (Nat.le_of_ble_eq_true rfl) rfl ?_
  refine ax_aload_n f0_932 rfl ?_
  refine ax_cvI (rest := []) f0_933 ho2 rfl rfl rfl rfl rfl rfl rfl rfl (c_143 (R := R) ho2) ?_
  intro _ e_
  obtain rfl := e_.symm
  clear e_
  refine ax_iload f0_936 rfl ?_
  refine ax_icmp_eq f0_938 rfl ⟨by omega, by omega⟩ ⟨by omega, by omega⟩ (fun q938 => ?_) (fun q938 => absurd q938 (by omega))
  refine ax_iload f0_943 rfl ?_
  refine ax_if_ne f0_945 rfl ⟨by omega, by omega⟩ (fun q945 => ?_) (fun q945 => ?_)
  · refine ax_goto f0_960 rfl ?_
    exact K ok' a b ol hs p1 p2
  · refine ax_aload_n f0_948 rfl ?_
    refine ax_iconst f0_949 ?_
    refine ax_laldO f0_950 ol (by omega) (by omega) rfl ?_
    rw [e1 (by omega)]
    refine ax_iload f0_951 rfl ?_
    rw [ev (by omega)]
    refine ax_i2l f0_953 ?_
    refine ax_lcmpz f0_954 ?_
    refine ax_if_eq f0_955 rfl (lcz_in _ _) (fun q955 => ?_) (fun q955 => ?_)
    · refine ax_goto f0_960 rfl ?_
      exact K ok' a b ol hs p1 p2
    · exact absurd (lcz_0.mpr rfl) q955
theorem law_15 {h : am_H} {R : Int → Int} {S : Int → Int → Int} {c : Int} {G : Nat → Int → Int} {b0 : Int → Int} {T : Int → Int} {L0 : Int} {th : Int} {g : Int → Int64} {L : Nat} {xs : Nat → Int32} {i : Int} {N1 N2 : Nat} {Q : am_R → am_H → Prop} {x5 x6 : Value} (k : okS (R, S, c, G, b0, T, L0)) (a : Cls h (R, S, c, G, b0, T, L0)) (b : Mdl h (R, S, c, G, b0, T, L0) th) (ol : oL h 133 1 g) (hs : h.2.2 = (L, xs)) (n1 : h.2.1.1 ≤ N1) (n2 : h.2.1.2 ≤ N2) (hi : 0 ≤ i ∧ i + 4 ≤ L ∧ L ≤ 2048) (K : LK L xs i N1 N2 Q) : am_X 100 0 963 [.retAddr 0, .ref 0, .ref 120, .ref 133, .int (iI i), x5, x6] [] h Q := by
  obtain ⟨kd, v, s', ok', hk, w, mdl⟩ := e_13 k 
  refine ax_aload_n f0_963 rfl ?_
  refine ax_aload_n f0_964 rfl ?_
  refine ax_csI (rest := []) f0_965 (Or.inr (Or.inr rfl)) rfl rfl rfl rfl rfl rfl (Wout_x (w a ol)) ?_
  rintro h1 ⟨a, ⟨g1, ol, e1⟩, fq, hl1, hs1, p1, p2⟩
  have b := Mdl_tr b fq
  have hs := hs1.trans hs
  obtain ⟨v', ev, mm⟩ := mdl b
  obtain ⟨⟨_, _, _, _, _, ho1⟩, _⟩ := id b
  refine ax_istore (ls' := [_, _, _, _, _, _, _]) f0_968 (Nat.le_of_ble_eq_true rfl) rfl ?_
  refine ax_aload_n f0_970 rfl ?_
  refine ax_cvI (rest := []) f0_971 ho1 rfl rfl rfl rfl rfl rfl rfl rfl (Mot_x mm) ?_
  rintro h2 ⟨b, f2⟩
  have a := Cls_mv a f2 (fun q hq => by omega)
  have ol := ol.fr f2 (by omega)
  have f22 := f2.2.1
  have hs := (congrArg Prod.snd f22).trans hs
  have hc2 := congrArg Prod.fst f22
  have p1 : h2.2.1.1 ≤ N1 + 1 := by rw [hc2]; omega
  have p2 : h2.2.1.2 ≤ N2 + 6 := by rw [hc2]; omega
  obtain ⟨⟨_, _, _, _, _, ho2⟩, _⟩ := id b
  refine ax_istore (ls' := [_, _, _, _, _, _, _]) f0_974 (Nat.le_of_ble_eq_true rfl) rfl ?_
  refine ax_aload_n f0_976 rfl ?_
  refine ax_cvI (rest := []) f0_977 ho2 rfl rfl rfl rfl rfl rfl rfl rfl (c_143 (R := R) ho2) ?_
  intro _ e_
  obtain rfl := e_.symm
  clear e_
  refine ax_iload f0_980 rfl ?_
  refine ax_icmp_eq f0_982 rfl ⟨by omega, by omega⟩ ⟨by omega, by omega⟩ (fun q982 => ?_) (fun q982 => absurd q982 (by omega))
  refine ax_iload f0_987 rfl ?_
  refine ax_if_ne f0_989 rfl ⟨by omega, by omega⟩ (fun q989 => ?_) (fun q989 => ?_)
  · refine ax_goto f0_1004 rfl ?_
    exact K ok' a b ol hs p1 p2
  · refine ax_aload_n f0_992 rfl ?_
    refine ax_iconst f0_993 ?_
    refine ax_laldO f0_994 ol (by omega) (by omega) rfl ?_
    rw [e1 (by omega)]
    refine ax_iload f0_995 rfl ?_
    rw [ev (by omega)]
    refine ax_i2l f0_997 ?_
    refine ax_lcmpz f0_998 ?_
    refine ax_if_eq f0_999 rfl (lcz_in _ _) (fun q999 => ?_) (fun q999 => ?_)
    · refine ax_goto f0_1004 rfl ?_
      exact K ok' a b ol hs p1 p2
    · exact absurd (lcz_0.mpr rfl) q999
theorem law_16 {h : am_H} {R : Int → Int} {S : Int → Int → Int} {c : Int} {G : Nat → Int → Int} {b0 : Int → Int} {T : Int → Int} {L0 : Int} {th : Int} {g : Int → Int64} {L : Nat} {xs : Nat → Int32} {i : Int} {N1 N2 : Nat} {Q : am_R → am_H → Prop} {x5 x6 : Value} (k : okS (R, S, c, G, b0, T, L0)) (a : Cls h (R, S, c, G, b0, T, L0)) (b : Mdl h (R, S, c, G, b0, T, L0) th) (ol : oL h 133 1 g) (hs : h.2.2 = (L, xs)) (n1 : h.2.1.1 ≤ N1) (n2 : h.2.1.2 ≤ N2) (hi : 0 ≤ i ∧ i + 4 ≤ L ∧ L ≤ 2048) (K : LK L xs i N1 N2 Q) : am_X 100 0 1007 [.retAddr 0, .ref 0, .ref 120, .ref 133, .int (iI i), x5, x6] [] h Q := by
  obtain ⟨kd, v, s', ok', hk, w, mdl⟩ := e_14 k (w0 := (sx xs (i + 1))) (q0 := (sx xs (i + 2))) sx_in sx_in
  refine ax_aload_n f0_1007 rfl ?_
  refine ax_aload_nS f0_1008 rfl ?_
  refine ax_iload f0_1009 rfl ?_
  refine ax_iconst f0_1011 ?_
  refine ax_iadd f0_1012 ?_
  refine ax_sldO f0_1013 hs (by omega) (by omega) (by omega) ?_
  refine ax_aload_nS f0_1014 rfl ?_
  refine ax_iload f0_1015 rfl ?_
  refine ax_iconst f0_1017 ?_
  refine ax_iadd f0_1018 ?_
  refine ax_sldO f0_1019 hs (by omega) (by omega) (by omega) ?_
  refine ax_aload_n f0_1020 rfl ?_
  refine ax_csI (rest := []) f0_1021 (Or.inr (Or.inr rfl)) rfl rfl rfl rfl rfl rfl (Wout_x (w a ol)) ?_
  rintro h1 ⟨a, ⟨g1, ol, e1⟩, fq, hl1, hs1, p1, p2⟩
  have b := Mdl_tr b fq
  have hs := hs1.trans hs
  obtain ⟨v', ev, mm⟩ := mdl b
  obtain ⟨⟨_, _, _, _, _, ho1⟩, _⟩ := id b
  refine ax_istore (ls' := [_, _, _, _, _, _, _]) f0_1024 (Nat.le_of_ble_eq_true rfl) rfl ?_
  refine ax_aload_n f0_1026 rfl ?_
  refine ax_aload_nS f0_1027 rfl ?_
  refine ax_iload f0_1028 rfl ?_
  refine ax_iconst f0_1030 ?_
  refine ax_iadd f0_1031 ?_
  refine ax_sldO f0_1032 hs (by omega) (by omega) (by omega) ?_
  refine ax_aload_nS f0_1033 rfl ?_
  refine ax_iload f0_1034 rfl ?_
  refine ax_iconst f0_1036 ?_
  refine ax_iadd f0_1037 ?_
  refine ax_sldO f0_1038 hs (by omega) (by omega) (by omega) ?_
  refine ax_cvI (rest := []) f0_1039 ho1 rfl rfl rfl rfl rfl rfl rfl rfl (Mot_x mm) ?_
  rintro h2 ⟨b, f2⟩
  have a := Cls_mv a f2 (fun q hq => by omega)
  have ol := ol.fr f2 (by omega)
  have f22 := f2.2.1
  have hs := (congrArg Prod.snd f22).trans hs
  have hc2 := congrArg Prod.fst f22
  have p1 : h2.2.1.1 ≤ N1 + 1 := by rw [hc2]; omega
  have p2 : h2.2.1.2 ≤ N2 + 6 := by rw [hc2]; omega
  obtain ⟨⟨_, _, _, _, _, ho2⟩, _⟩ := id b
  refine ax_istore (ls' := [_, _, _, _, _, _, _]) f0_1042 (Nat.le_of_ble_eq_true rfl) rfl ?_
  refine ax_aload_n f0_1044 rfl ?_
  refine ax_cvI (rest := []) f0_1045 ho2 rfl rfl rfl rfl rfl rfl rfl rfl (c_143 (R := R) ho2) ?_
  intro _ e_
  obtain rfl := e_.symm
  clear e_
  refine ax_iload f0_1048 rfl ?_
  refine ax_icmp_eq f0_1050 rfl ⟨by omega, by omega⟩ ⟨by omega, by omega⟩ (fun q1050 => ?_) (fun q1050 => absurd q1050 (by omega))
  refine ax_iload f0_1055 rfl ?_
  refine ax_if_ne f0_1057 rfl ⟨by omega, by omega⟩ (fun q1057 => ?_) (fun q1057 => ?_)
  · refine ax_goto f0_1072 rfl ?_
    exact K ok' a b ol hs p1 p2
  · refine ax_aload_n f0_1060 rfl ?_
    refine ax_iconst f0_1061 ?_
    refine ax_laldO f0_1062 ol (by omega) (by omega) rfl ?_
    rw [e1 (by omega)]
    refine ax_iload f0_1063 rfl ?_
    rw [ev (by omega)]
    refine ax_i2l f0_1065 ?_
    refine ax_lcmpz f0_1066 ?_
    refine ax_if_eq f0_1067 rfl (lcz_in _ _) (fun q1067 => ?_) (fun q1067 => ?_)
    · refine ax_goto f0_1072 rfl ?_
      exact K ok' a b ol hs p1 p2
    · exact absurd (lcz_0.mpr rfl) q1067
theorem law_17 {h : am_H} {R : Int → Int} {S : Int → Int → Int} {c : Int} {G : Nat → Int → Int} {b0 : Int → Int} {T : Int → Int} {L0 : Int} {th : Int} {g : Int → Int64} {L : Nat} {xs : Nat → Int32} {i : Int} {N1 N2 : Nat} {Q : am_R → am_H → Prop} {x5 x6 : Value} (k : okS (R, S, c, G, b0, T, L0)) (a : Cls h (R, S, c, G, b0, T, L0)) (b : Mdl h (R, S, c, G, b0, T, L0) th) (ol : oL h 133 1 g) (hs : h.2.2 = (L, xs)) (n1 : h.2.1.1 ≤ N1) (n2 : h.2.1.2 ≤ N2) (hi : 0 ≤ i ∧ i + 4 ≤ L ∧ L ≤ 2048) (K : LK L xs i N1 N2 Q) : am_X 100 0 1075 [.retAddr 0, .ref 0, .ref 120, .ref 133, .int (iI i), x5, x6] [] h Q := by
  obtain ⟨v, s', ok', hv, w, mdl⟩ := d_17 k
  refine ax_aload_n f0_1075 rfl ?_
  refine ax_cvI (rest := []) f0_1076 a.1 rfl rfl rfl rfl rfl rfl rfl rfl (w a) ?_
  rintro h1 ⟨a, f1⟩
  have b := Mdl_tr b (fun q q1 q2 => f1.2.2 q (by unfold FC; omega))
  have ol := ol.fr f1 (by unfold FC; omega)
  have hs := (congrArg Prod.snd f1.2.1).trans hs
  have hc1 := congrArg Prod.fst f1.2.1
  obtain ⟨⟨_, _, _, _, _, ho1⟩, _⟩ := id b
  refine ax_aload_n f0_1079 rfl ?_
  refine ax_cvI (rest := [_]) f0_1080 ho1 rfl rfl rfl rfl rfl rfl rfl rfl (mdl b) ?_
  rintro h2 ⟨b, f2⟩
  have a := Cls_mv a f2 (fun q hq => by omega)
  have ol := ol.fr f2 (by omega)
  have f22 := f2.2.1
  have hs := (congrArg Prod.snd f22).trans hs
  have hc2 := (congrArg Prod.fst f22).trans hc1
  have p1 : h2.2.1.1 ≤ N1 + 1 := by rw [hc2]; omega
  have p2 : h2.2.1.2 ≤ N2 + 6 := by rw [hc2]; omega
  refine ax_icmp_eq f0_1083 rfl hv hv (fun q1083 => ?_) (fun q1083 => absurd q1083 (by omega))
  exact K ok' a b ol hs p1 p2
theorem law_18 {h : am_H} {R : Int → Int} {S : Int → Int → Int} {c : Int} {G : Nat → Int → Int} {b0 : Int → Int} {T : Int → Int} {L0 : Int} {th : Int} {g : Int → Int64} {L : Nat} {xs : Nat → Int32} {i : Int} {N1 N2 : Nat} {Q : am_R → am_H → Prop} {x5 x6 : Value} (k : okS (R, S, c, G, b0, T, L0)) (a : Cls h (R, S, c, G, b0, T, L0)) (b : Mdl h (R, S, c, G, b0, T, L0) th) (ol : oL h 133 1 g) (hs : h.2.2 = (L, xs)) (n1 : h.2.1.1 ≤ N1) (n2 : h.2.1.2 ≤ N2) (hi : 0 ≤ i ∧ i + 4 ≤ L ∧ L ≤ 2048) (K : LK L xs i N1 N2 Q) : am_X 100 0 1088 [.retAddr 0, .ref 0, .ref 120, .ref 133, .int (iI i), x5, x6] [] h Q := by
  obtain ⟨kd, v, s', ok', hk, w, mdl⟩ := e_15 k (n := (sx xs (i + 1))) (w0 := (sx xs (i + 2))) (q0 := (sx xs (i + 3))) sx_in sx_in sx_in
  refine ax_aload_n f0_1088 rfl ?_
  refine ax_aload_nS f0_1089 rfl ?_
  refine ax_iload f0_1090 rfl ?_
  refine ax_iconst f0_1092 ?_
  refine ax_iadd f0_1093 ?_
  refine ax_sldO f0_1094 hs (by omega) (by omega) (by omega) ?_
  refine ax_aload_nS f0_1095 rfl ?_
  refine ax_iload f0_1096 rfl ?_
  refine ax_iconst f0_1098 ?_
  refine ax_iadd f0_1099 ?_
  refine ax_sldO f0_1100 hs (by omega) (by omega) (by omega) ?_
  refine ax_aload_nS f0_1101 rfl ?_
  refine ax_iload f0_1102 rfl ?_
  refine ax_iconst f0_1104 ?_
  refine ax_iadd f0_1105 ?_
  refine ax_sldO f0_1106 hs (by omega) (by omega) (by omega) ?_
  refine ax_aload_n f0_1107 rfl ?_
  refine ax_csI (rest := []) f0_1108 (Or.inr (Or.inr rfl)) rfl rfl rfl rfl rfl rfl (Wout_x (w a ol)) ?_
  rintro h1 ⟨a, ⟨g1, ol, e1⟩, fq, hl1, hs1, p1, p2⟩
  have b := Mdl_tr b fq
  have hs := hs1.trans hs
  obtain ⟨v', ev, mm⟩ := mdl b
  obtain ⟨⟨_, _, _, _, _, ho1⟩, _⟩ := id b
  refine ax_istore (ls' := [_, _, _, _, _, _, _]) f0_1111 (Nat.le_of_ble_eq_true rfl) rfl ?_
  refine ax_aload_n f0_1113 rfl ?_
  refine ax_aload_nS f0_1114 rfl ?_
  refine ax_iload f0_1115 rfl ?_
  refine ax_iconst f0_1117 ?_
  refine ax_iadd f0_1118 ?_
  refine ax_sldO f0_1119 hs (by omega) (by omega) (by omega) ?_
  refine ax_aload_nS f0_1120 rfl ?_
  refine ax_iload f0_1121 rfl ?_
  refine ax_iconst f0_1123 ?_
  refine ax_iadd f0_1124 ?_
  refine ax_sldO f0_1125 hs (by omega) (by omega) (by omega) ?_
  refine ax_aload_nS f0_1126 rfl ?_
  refine ax_iload f0_1127 rfl ?_
  refine ax_iconst f0_1129 ?_
  refine ax_iadd f0_1130 ?_
  refine ax_sldO f0_1131 hs (by omega) (by omega) (by omega) ?_
  refine ax_cvI (rest := []) f0_1132 ho1 rfl rfl rfl rfl rfl rfl rfl rfl (Mot_x mm) ?_
  rintro h2 ⟨b, f2⟩
  have a := Cls_mv a f2 (fun q hq => by omega)
  have ol := ol.fr f2 (by omega)
  have f22 := f2.2.1
  have hs := (congrArg Prod.snd f22).trans hs
  have hc2 := congrArg Prod.fst f22
  have p1 : h2.2.1.1 ≤ N1 + 1 := by rw [hc2]; omega
  have p2 : h2.2.1.2 ≤ N2 + 6 := by rw [hc2]; omega
  obtain ⟨⟨_, _, _, _, _, ho2⟩, _⟩ := id b
  refine ax_istore (ls' := [_, _, _, _, _, _, _]) f0_1135 (Nat.le_of_ble_eq_true rfl) rfl ?_
  refine ax_aload_n f0_1137 rfl ?_
  refine ax_cvI (rest := []) f0_1138 ho2 rfl rfl rfl rfl rfl rfl rfl rfl (c_143 (R := R) ho2) ?_
  intro _ e_
  obtain rfl := e_.symm
  clear e_
  refine ax_iload f0_1141 rfl ?_
  refine ax_icmp_eq f0_1143 rfl ⟨by omega, by omega⟩ ⟨by omega, by omega⟩ (fun q1143 => ?_) (fun q1143 => absurd q1143 (by omega))
  refine ax_iload f0_1148 rfl ?_
  refine ax_if_ne f0_1150 rfl ⟨by omega, by omega⟩ (fun q1150 => ?_) (fun q1150 => ?_)
  · refine ax_goto f0_1165 rfl ?_
    exact K ok' a b ol hs p1 p2
  · refine ax_aload_n f0_1153 rfl ?_
    refine ax_iconst f0_1154 ?_
    refine ax_laldO f0_1155 ol (by omega) (by omega) rfl ?_
    rw [e1 (by omega)]
    refine ax_iload f0_1156 rfl ?_
    rw [ev (by omega)]
    refine ax_i2l f0_1158 ?_
    refine ax_lcmpz f0_1159 ?_
    refine ax_if_eq f0_1160 rfl (lcz_in _ _) (fun q1160 => ?_) (fun q1160 => ?_)
    · refine ax_goto f0_1165 rfl ?_
      exact K ok' a b ol hs p1 p2
    · exact absurd (lcz_0.mpr rfl) q1160
theorem law_19 {h : am_H} {R : Int → Int} {S : Int → Int → Int} {c : Int} {G : Nat → Int → Int} {b0 : Int → Int} {T : Int → Int} {L0 : Int} {th : Int} {g : Int → Int64} {L : Nat} {xs : Nat → Int32} {i : Int} {N1 N2 : Nat} {Q : am_R → am_H → Prop} {x5 x6 : Value} (k : okS (R, S, c, G, b0, T, L0)) (a : Cls h (R, S, c, G, b0, T, L0)) (b : Mdl h (R, S, c, G, b0, T, L0) th) (ol : oL h 133 1 g) (hs : h.2.2 = (L, xs)) (n1 : h.2.1.1 ≤ N1) (n2 : h.2.1.2 ≤ N2) (hi : 0 ≤ i ∧ i + 4 ≤ L ∧ L ≤ 2048) (K : LK L xs i N1 N2 Q) : am_X 100 0 1168 [.retAddr 0, .ref 0, .ref 120, .ref 133, .int (iI i), x5, x6] [] h Q := by
  obtain ⟨kd, v, s', ok', hk, w, mdl⟩ := e_16 k (n := (sx xs (i + 1))) sx_in
  refine ax_aload_n f0_1168 rfl ?_
  refine ax_aload_nS f0_1169 rfl ?_
  refine ax_iload f0_1170 rfl ?_
  refine ax_iconst f0_1172 ?_
  refine ax_iadd f0_1173 ?_
  refine ax_sldO f0_1174 hs (by omega) (by omega) (by omega) ?_
  refine ax_aload_n f0_1175 rfl ?_
  refine ax_csI (rest := []) f0_1176 (Or.inr (Or.inr rfl)) rfl rfl rfl rfl rfl rfl (Wout_x (w a ol)) ?_
  rintro h1 ⟨a, ⟨g1, ol, e1⟩, fq, hl1, hs1, p1, p2⟩
  have b := Mdl_tr b fq
  have hs := hs1.trans hs
  obtain ⟨v', ev, mm⟩ := mdl b
  obtain ⟨⟨_, _, _, _, _, ho1⟩, _⟩ := id b
  refine ax_istore (ls' := [_, _, _, _, _, _, _]) f0_1179 (Nat.le_of_ble_eq_true rfl) rfl ?_
  refine ax_aload_n f0_1181 rfl ?_
  refine ax_aload_nS f0_1182 rfl ?_
  refine ax_iload f0_1183 rfl ?_
  refine ax_iconst f0_1185 ?_
  refine ax_iadd f0_1186 ?_
  refine ax_sldO f0_1187 hs (by omega) (by omega) (by omega) ?_
  refine ax_cvI (rest := []) f0_1188 ho1 rfl rfl rfl rfl rfl rfl rfl rfl (Mot_x mm) ?_
  rintro h2 ⟨b, f2⟩
  have a := Cls_mv a f2 (fun q hq => by omega)
  have ol := ol.fr f2 (by omega)
  have f22 := f2.2.1
  have hs := (congrArg Prod.snd f22).trans hs
  have hc2 := congrArg Prod.fst f22
  have p1 : h2.2.1.1 ≤ N1 + 1 := by rw [hc2]; omega
  have p2 : h2.2.1.2 ≤ N2 + 6 := by rw [hc2]; omega
  obtain ⟨⟨_, _, _, _, _, ho2⟩, _⟩ := id b
  refine ax_istore (ls' := [_, _, _, _, _, _, _]) f0_1191 (Nat.le_of_ble_eq_true rfl) rfl ?_
  refine ax_aload_n f0_1193 rfl ?_
  refine ax_cvI (rest := []) f0_1194 ho2 rfl rfl rfl rfl rfl rfl rfl rfl (c_143 (R := R) ho2) ?_
  intro _ e_
  obtain rfl := e_.symm
  clear e_
  refine ax_iload f0_1197 rfl ?_
  refine ax_icmp_eq f0_1199 rfl ⟨by omega, by omega⟩ ⟨by omega, by omega⟩ (fun q1199 => ?_) (fun q1199 => absurd q1199 (by omega))
  refine ax_iload f0_1204 rfl ?_
  refine ax_if_ne f0_1206 rfl ⟨by omega, by omega⟩ (fun q1206 => ?_) (fun q1206 => ?_)
  · refine ax_goto f0_1221 rfl ?_
    exact K ok' a b ol hs p1 p2
  · refine ax_aload_n f0_1209 rfl ?_
    refine ax_iconst f0_1210 ?_
    refine ax_laldO f0_1211 ol (by omega) (by omega) rfl ?_
    rw [e1 (by omega)]
    refine ax_iload f0_1212 rfl ?_
    rw [ev (by omega)]
    refine ax_i2l f0_1214 ?_
    refine ax_lcmpz f0_1215 ?_
    refine ax_if_eq f0_1216 rfl (lcz_in _ _) (fun q1216 => ?_) (fun q1216 => ?_)
    · refine ax_goto f0_1221 rfl ?_
      exact K ok' a b ol hs p1 p2
    · exact absurd (lcz_0.mpr rfl) q1216
theorem law_20 {h : am_H} {R : Int → Int} {S : Int → Int → Int} {c : Int} {G : Nat → Int → Int} {b0 : Int → Int} {T : Int → Int} {L0 : Int} {th : Int} {g : Int → Int64} {L : Nat} {xs : Nat → Int32} {i : Int} {N1 N2 : Nat} {Q : am_R → am_H → Prop} {x5 x6 : Value} (k : okS (R, S, c, G, b0, T, L0)) (a : Cls h (R, S, c, G, b0, T, L0)) (b : Mdl h (R, S, c, G, b0, T, L0) th) (ol : oL h 133 1 g) (hs : h.2.2 = (L, xs)) (n1 : h.2.1.1 ≤ N1) (n2 : h.2.1.2 ≤ N2) (hi : 0 ≤ i ∧ i + 4 ≤ L ∧ L ≤ 2048) (K : LK L xs i N1 N2 Q) : am_X 100 0 1224 [.retAddr 0, .ref 0, .ref 120, .ref 133, .int (iI i), x5, x6] [] h Q := by
  obtain ⟨kd, v, s', ok', hk, w, mdl⟩ := e_17 k (n := (sx xs (i + 1))) sx_in
  refine ax_aload_n f0_1224 rfl ?_
  refine ax_aload_nS f0_1225 rfl ?_
  refine ax_iload f0_1226 rfl ?_
  refine ax_iconst f0_1228 ?_
  refine ax_iadd f0_1229 ?_
  refine ax_sldO f0_1230 hs (by omega) (by omega) (by omega) ?_
  refine ax_aload_n f0_1231 rfl ?_
  refine ax_csI (rest := []) f0_1232 (Or.inr (Or.inr rfl)) rfl rfl rfl rfl rfl rfl (Wout_x (w a ol)) ?_
  rintro h1 ⟨a, ⟨g1, ol, e1⟩, fq, hl1, hs1, p1, p2⟩
  have b := Mdl_tr b fq
  have hs := hs1.trans hs
  obtain ⟨v', ev, mm⟩ := mdl b
  obtain ⟨⟨_, _, _, _, _, ho1⟩, _⟩ := id b
  refine ax_istore (ls' := [_, _, _, _, _, _, _]) f0_1235 (Nat.le_of_ble_eq_true rfl) rfl ?_
  refine ax_aload_n f0_1237 rfl ?_
  refine ax_aload_nS f0_1238 rfl ?_
  refine ax_iload f0_1239 rfl ?_
  refine ax_iconst f0_1241 ?_
  refine ax_iadd f0_1242 ?_
  refine ax_sldO f0_1243 hs (by omega) (by omega) (by omega) ?_
  refine ax_cvI (rest := []) f0_1244 ho1 rfl rfl rfl rfl rfl rfl rfl rfl (Mot_x mm) ?_
  rintro h2 ⟨b, f2⟩
  have a := Cls_mv a f2 (fun q hq => by omega)
  have ol := ol.fr f2 (by omega)
  have f22 := f2.2.1
  have hs := (congrArg Prod.snd f22).trans hs
  have hc2 := congrArg Prod.fst f22
  have p1 : h2.2.1.1 ≤ N1 + 1 := by rw [hc2]; omega
  have p2 : h2.2.1.2 ≤ N2 + 6 := by rw [hc2]; omega
  obtain ⟨⟨_, _, _, _, _, ho2⟩, _⟩ := id b
  refine ax_istore (ls' := [_, _, _, _, _, _, _]) f0_1247 (Nat.le_of_ble_eq_true rfl) rfl ?_
  refine ax_aload_n f0_1249 rfl ?_
  refine ax_cvI (rest := []) f0_1250 ho2 rfl rfl rfl rfl rfl rfl rfl rfl (c_143 (R := R) ho2) ?_
  intro _ e_
  obtain rfl := e_.symm
  clear e_
  refine ax_iload f0_1253 rfl ?_
  refine ax_icmp_eq f0_1255 rfl ⟨by omega, by omega⟩ ⟨by omega, by omega⟩ (fun q1255 => ?_) (fun q1255 => absurd q1255 (by omega))
  refine ax_iload f0_1260 rfl ?_
  refine ax_if_ne f0_1262 rfl ⟨by omega, by omega⟩ (fun q1262 => ?_) (fun q1262 => ?_)
  · refine ax_goto f0_1277 rfl ?_
    exact K ok' a b ol hs p1 p2
  · refine ax_aload_n f0_1265 rfl ?_
    refine ax_iconst f0_1266 ?_
    refine ax_laldO f0_1267 ol (by omega) (by omega) rfl ?_
    rw [e1 (by omega)]
    refine ax_iload f0_1268 rfl ?_
    rw [ev (by omega)]
    refine ax_i2l f0_1270 ?_
    refine ax_lcmpz f0_1271 ?_
    refine ax_if_eq f0_1272 rfl (lcz_in _ _) (fun q1272 => ?_) (fun q1272 => ?_)
    · refine ax_goto f0_1277 rfl ?_
      exact K ok' a b ol hs p1 p2
    · exact absurd (lcz_0.mpr rfl) q1272
theorem law_21 {h : am_H} {R : Int → Int} {S : Int → Int → Int} {c : Int} {G : Nat → Int → Int} {b0 : Int → Int} {T : Int → Int} {L0 : Int} {th : Int} {g : Int → Int64} {L : Nat} {xs : Nat → Int32} {i : Int} {N1 N2 : Nat} {Q : am_R → am_H → Prop} {x5 x6 : Value} (k : okS (R, S, c, G, b0, T, L0)) (a : Cls h (R, S, c, G, b0, T, L0)) (b : Mdl h (R, S, c, G, b0, T, L0) th) (ol : oL h 133 1 g) (hs : h.2.2 = (L, xs)) (n1 : h.2.1.1 ≤ N1) (n2 : h.2.1.2 ≤ N2) (hi : 0 ≤ i ∧ i + 4 ≤ L ∧ L ≤ 2048) (K : LK L xs i N1 N2 Q) : am_X 100 0 1280 [.retAddr 0, .ref 0, .ref 120, .ref 133, .int (iI i), x5, x6] [] h Q := by
  obtain ⟨kd, v, s', ok', hk, w, mdl⟩ := e_18 k (n := (sx xs (i + 1))) sx_in
  refine ax_aload_n f0_1280 rfl ?_
  refine ax_aload_nS f0_1281 rfl ?_
  refine ax_iload f0_1282 rfl ?_
  refine ax_iconst f0_1284 ?_
  refine ax_iadd f0_1285 ?_
  refine ax_sldO f0_1286 hs (by omega) (by omega) (by omega) ?_
  refine ax_aload_n f0_1287 rfl ?_
  refine ax_csI (rest := []) f0_1288 (Or.inr (Or.inr rfl)) rfl rfl rfl rfl rfl rfl (Wout_x (w a ol)) ?_
  rintro h1 ⟨a, ⟨g1, ol, e1⟩, fq, hl1, hs1, p1, p2⟩
  have b := Mdl_tr b fq
  have hs := hs1.trans hs
  obtain ⟨v', ev, mm⟩ := mdl b
  obtain ⟨⟨_, _, _, _, _, ho1⟩, _⟩ := id b
  refine ax_istore (ls' := [_, _, _, _, _, _, _]) f0_1291 (Nat.le_of_ble_eq_true rfl) rfl ?_
  refine ax_aload_n f0_1293 rfl ?_
  refine ax_aload_nS f0_1294 rfl ?_
  refine ax_iload f0_1295 rfl ?_
  refine ax_iconst f0_1297 ?_
  refine ax_iadd f0_1298 ?_
  refine ax_sldO f0_1299 hs (by omega) (by omega) (by omega) ?_
  refine ax_cvI (rest := []) f0_1300 ho1 rfl rfl rfl rfl rfl rfl rfl rfl (Mot_x mm) ?_
  rintro h2 ⟨b, f2⟩
  have a := Cls_mv a f2 (fun q hq => by omega)
  have ol := ol.fr f2 (by omega)
  have f22 := f2.2.1
  have hs := (congrArg Prod.snd f22).trans hs
  have hc2 := congrArg Prod.fst f22
  have p1 : h2.2.1.1 ≤ N1 + 1 := by rw [hc2]; omega
  have p2 : h2.2.1.2 ≤ N2 + 6 := by rw [hc2]; omega
  obtain ⟨⟨_, _, _, _, _, ho2⟩, _⟩ := id b
  refine ax_istore (ls' := [_, _, _, _, _, _, _]) f0_1303 (Nat.le_of_ble_eq_true rfl) rfl ?_
  refine ax_aload_n f0_1305 rfl ?_
  refine ax_cvI (rest := []) f0_1306 ho2 rfl rfl rfl rfl rfl rfl rfl rfl (c_143 (R := R) ho2) ?_
  intro _ e_
  obtain rfl := e_.symm
  clear e_
  refine ax_iload f0_1309 rfl ?_
  refine ax_icmp_eq f0_1311 rfl ⟨by omega, by omega⟩ ⟨by omega, by omega⟩ (fun q1311 => ?_) (fun q1311 => absurd q1311 (by omega))
  refine ax_iload f0_1316 rfl ?_
  refine ax_if_ne f0_1318 rfl ⟨by omega, by omega⟩ (fun q1318 => ?_) (fun q1318 => ?_)
  · refine ax_goto f0_1333 rfl ?_
    exact K ok' a b ol hs p1 p2
  · refine ax_aload_n f0_1321 rfl ?_
    refine ax_iconst f0_1322 ?_
    refine ax_laldO f0_1323 ol (by omega) (by omega) rfl ?_
    rw [e1 (by omega)]
    refine ax_iload f0_1324 rfl ?_
    rw [ev (by omega)]
    refine ax_i2l f0_1326 ?_
    refine ax_lcmpz f0_1327 ?_
    refine ax_if_eq f0_1328 rfl (lcz_in _ _) (fun q1328 => ?_) (fun q1328 => ?_)
    · refine ax_goto f0_1333 rfl ?_
      exact K ok' a b ol hs p1 p2
    · exact absurd (lcz_0.mpr rfl) q1328
theorem law_22 {h : am_H} {R : Int → Int} {S : Int → Int → Int} {c : Int} {G : Nat → Int → Int} {b0 : Int → Int} {T : Int → Int} {L0 : Int} {th : Int} {g : Int → Int64} {L : Nat} {xs : Nat → Int32} {i : Int} {N1 N2 : Nat} {Q : am_R → am_H → Prop} {x5 x6 : Value} (k : okS (R, S, c, G, b0, T, L0)) (a : Cls h (R, S, c, G, b0, T, L0)) (b : Mdl h (R, S, c, G, b0, T, L0) th) (ol : oL h 133 1 g) (hs : h.2.2 = (L, xs)) (n1 : h.2.1.1 ≤ N1) (n2 : h.2.1.2 ≤ N2) (hi : 0 ≤ i ∧ i + 4 ≤ L ∧ L ≤ 2048) (K : LK L xs i N1 N2 Q) : am_X 100 0 1336 [.retAddr 0, .ref 0, .ref 120, .ref 133, .int (iI i), x5, x6] [] h Q := by
  obtain ⟨v, s', ok', hv, w, mdl⟩ := d_22 k
  refine ax_aload_n f0_1336 rfl ?_
  refine ax_cvI (rest := []) f0_1337 a.1 rfl rfl rfl rfl rfl rfl rfl rfl (w a) ?_
  rintro h1 ⟨a, f1⟩
  have b := Mdl_tr b (fun q q1 q2 => f1.2.2 q (by unfold FC; omega))
  have ol := ol.fr f1 (by unfold FC; omega)
  have hs := (congrArg Prod.snd f1.2.1).trans hs
  have hc1 := congrArg Prod.fst f1.2.1
  obtain ⟨⟨_, _, _, _, _, ho1⟩, _⟩ := id b
  refine ax_aload_n f0_1340 rfl ?_
  refine ax_cvI (rest := [_]) f0_1341 ho1 rfl rfl rfl rfl rfl rfl rfl rfl (mdl b) ?_
  rintro h2 ⟨b, f2⟩
  have a := Cls_mv a f2 (fun q hq => by omega)
  have ol := ol.fr f2 (by omega)
  have f22 := f2.2.1
  have hs := (congrArg Prod.snd f22).trans hs
  have hc2 := (congrArg Prod.fst f22).trans hc1
  have p1 : h2.2.1.1 ≤ N1 + 1 := by rw [hc2]; omega
  have p2 : h2.2.1.2 ≤ N2 + 6 := by rw [hc2]; omega
  refine ax_icmp_eq f0_1344 rfl hv hv (fun q1344 => ?_) (fun q1344 => absurd q1344 (by omega))
  exact K ok' a b ol hs p1 p2
theorem law_23 {h : am_H} {R : Int → Int} {S : Int → Int → Int} {c : Int} {G : Nat → Int → Int} {b0 : Int → Int} {T : Int → Int} {L0 : Int} {th : Int} {g : Int → Int64} {L : Nat} {xs : Nat → Int32} {i : Int} {N1 N2 : Nat} {Q : am_R → am_H → Prop} {x5 x6 : Value} (k : okS (R, S, c, G, b0, T, L0)) (a : Cls h (R, S, c, G, b0, T, L0)) (b : Mdl h (R, S, c, G, b0, T, L0) th) (ol : oL h 133 1 g) (hs : h.2.2 = (L, xs)) (n1 : h.2.1.1 ≤ N1) (n2 : h.2.1.2 ≤ N2) (hi : 0 ≤ i ∧ i + 4 ≤ L ∧ L ≤ 2048) (K : LK L xs i N1 N2 Q) : am_X 100 0 1349 [.retAddr 0, .ref 0, .ref 120, .ref 133, .int (iI i), x5, x6] [] h Q := by
  obtain ⟨kd, v, s', ok', hk, w, mdl⟩ := e_19 k (n := (sx xs (i + 1))) (x := ((iI (sx xs (i + 2))).toInt64 <<< ((iI 32).toInt64 &&& 63) ||| (iI (sx xs (i + 3))).toInt64 &&& 4294967295)) sx_in
  refine ax_aload_n f0_1349 rfl ?_
  refine ax_aload_nS f0_1350 rfl ?_
  refine ax_iload f0_1351 rfl ?_
  refine ax_iconst f0_1353 ?_
  refine ax_iadd f0_1354 ?_
  refine ax_sldO f0_1355 hs (by omega) (by omega) (by omega) ?_
  refine ax_aload_nS f0_1356 rfl ?_
  refine ax_iload f0_1357 rfl ?_
  refine ax_iconst f0_1359 ?_
  refine ax_iadd f0_1360 ?_
  refine ax_sldO f0_1361 hs (by omega) (by omega) (by omega) ?_
  refine ax_i2l f0_1362 ?_
  refine ax_bipush f0_1363 ?_
  refine ax_lshl f0_1365 ?_
  refine ax_aload_nS f0_1366 rfl ?_
  refine ax_iload f0_1367 rfl ?_
  refine ax_iconst f0_1369 ?_
  refine ax_iadd f0_1370 ?_
  refine ax_sldO f0_1371 hs (by omega) (by omega) (by omega) ?_
  refine ax_i2l f0_1372 ?_
  refine ax_ldc2_w f0_1373 ?_
  refine ax_land f0_1376 ?_
  refine ax_lor f0_1377 ?_
  refine ax_aload_n f0_1378 rfl ?_
  refine ax_csI (rest := []) f0_1379 (Or.inr (Or.inr rfl)) rfl rfl rfl rfl rfl rfl (Wout_x (w a ol)) ?_
  rintro h1 ⟨a, ⟨g1, ol, e1⟩, fq, hl1, hs1, p1, p2⟩
  have b := Mdl_tr b fq
  have hs := hs1.trans hs
  obtain ⟨v', ev, mm⟩ := mdl b
  obtain ⟨⟨_, _, _, _, _, ho1⟩, _⟩ := id b
  refine ax_istore (ls' := [_, _, _, _, _, _, _]) f0_1382 (Nat.le_of_ble_eq_true rfl) rfl ?_
  refine ax_aload_n f0_1384 rfl ?_
  refine ax_aload_nS f0_1385 rfl ?_
  refine ax_iload f0_1386 rfl ?_
  refine ax_iconst f0_1388 ?_
  refine ax_iadd f0_1389 ?_
  refine ax_sldO f0_1390 hs (by omega) (by omega) (by omega) ?_
  refine ax_aload_nS f0_1391 rfl ?_
  refine ax_iload f0_1392 rfl ?_
  refine ax_iconst f0_1394 ?_
  refine ax_iadd f0_1395 ?_
  refine ax_sldO f0_1396 hs (by omega) (by omega) (by omega) ?_
  refine ax_i2l f0_1397 ?_
  refine ax_bipush f0_1398 ?_
  refine ax_lshl f0_1400 ?_
  refine ax_aload_nS f0_1401 rfl ?_
  refine ax_iload f0_1402 rfl ?_
  refine ax_iconst f0_1404 ?_
  refine ax_iadd f0_1405 ?_
  refine ax_sldO f0_1406 hs (by omega) (by omega) (by omega) ?_
  refine ax_i2l f0_1407 ?_
  refine ax_ldc2_w f0_1408 ?_
  refine ax_land f0_1411 ?_
  refine ax_lor f0_1412 ?_
  refine ax_cvI (rest := []) f0_1413 ho1 rfl rfl rfl rfl rfl rfl rfl rfl (Mot_x mm) ?_
  rintro h2 ⟨b, f2⟩
  have a := Cls_mv a f2 (fun q hq => by omega)
  have ol := ol.fr f2 (by omega)
  have f22 := f2.2.1
  have hs := (congrArg Prod.snd f22).trans hs
  have hc2 := congrArg Prod.fst f22
  have p1 : h2.2.1.1 ≤ N1 + 1 := by rw [hc2]; omega
  have p2 : h2.2.1.2 ≤ N2 + 6 := by rw [hc2]; omega
  obtain ⟨⟨_, _, _, _, _, ho2⟩, _⟩ := id b
  refine ax_istore (ls' := [_, _, _, _, _, _, _]) f0_1416 (Nat.le_of_ble_eq_true rfl) rfl ?_
  refine ax_aload_n f0_1418 rfl ?_
  refine ax_cvI (rest := []) f0_1419 ho2 rfl rfl rfl rfl rfl rfl rfl rfl (c_143 (R := R) ho2) ?_
  intro _ e_
  obtain rfl := e_.symm
  clear e_
  refine ax_iload f0_1422 rfl ?_
  refine ax_icmp_eq f0_1424 rfl ⟨by omega, by omega⟩ ⟨by omega, by omega⟩ (fun q1424 => ?_) (fun q1424 => absurd q1424 (by omega))
  refine ax_iload f0_1429 rfl ?_
  refine ax_if_ne f0_1431 rfl ⟨by omega, by omega⟩ (fun q1431 => ?_) (fun q1431 => ?_)
  · refine ax_goto f0_1446 rfl ?_
    exact K ok' a b ol hs p1 p2
  · refine ax_aload_n f0_1434 rfl ?_
    refine ax_iconst f0_1435 ?_
    refine ax_laldO f0_1436 ol (by omega) (by omega) rfl ?_
    rw [e1 (by omega)]
    refine ax_iload f0_1437 rfl ?_
    rw [ev (by omega)]
    refine ax_i2l f0_1439 ?_
    refine ax_lcmpz f0_1440 ?_
    refine ax_if_eq f0_1441 rfl (lcz_in _ _) (fun q1441 => ?_) (fun q1441 => ?_)
    · refine ax_goto f0_1446 rfl ?_
      exact K ok' a b ol hs p1 p2
    · exact absurd (lcz_0.mpr rfl) q1441
theorem law_24 {h : am_H} {R : Int → Int} {S : Int → Int → Int} {c : Int} {G : Nat → Int → Int} {b0 : Int → Int} {T : Int → Int} {L0 : Int} {th : Int} {g : Int → Int64} {L : Nat} {xs : Nat → Int32} {i : Int} {N1 N2 : Nat} {Q : am_R → am_H → Prop} {x5 x6 : Value} (k : okS (R, S, c, G, b0, T, L0)) (a : Cls h (R, S, c, G, b0, T, L0)) (b : Mdl h (R, S, c, G, b0, T, L0) th) (ol : oL h 133 1 g) (hs : h.2.2 = (L, xs)) (n1 : h.2.1.1 ≤ N1) (n2 : h.2.1.2 ≤ N2) (hi : 0 ≤ i ∧ i + 4 ≤ L ∧ L ≤ 2048) (K : LK L xs i N1 N2 Q) : am_X 100 0 1449 [.retAddr 0, .ref 0, .ref 120, .ref 133, .int (iI i), x5, x6] [] h Q := by
  obtain ⟨kd, v, s', ok', hk, w, mdl⟩ := e_20 k (x := ((iI (sx xs (i + 1))).toInt64 <<< ((iI 32).toInt64 &&& 63) ||| (iI (sx xs (i + 2))).toInt64 &&& 4294967295)) (m := (sx xs (i + 3))) sx_in
  refine ax_aload_n f0_1449 rfl ?_
  refine ax_aload_nS f0_1450 rfl ?_
  refine ax_iload f0_1451 rfl ?_
  refine ax_iconst f0_1453 ?_
  refine ax_iadd f0_1454 ?_
  refine ax_sldO f0_1455 hs (by omega) (by omega) (by omega) ?_
  refine ax_i2l f0_1456 ?_
  refine ax_bipush f0_1457 ?_
  refine ax_lshl f0_1459 ?_
  refine ax_aload_nS f0_1460 rfl ?_
  refine ax_iload f0_1461 rfl ?_
  refine ax_iconst f0_1463 ?_
  refine ax_iadd f0_1464 ?_
  refine ax_sldO f0_1465 hs (by omega) (by omega) (by omega) ?_
  refine ax_i2l f0_1466 ?_
  refine ax_ldc2_w f0_1467 ?_
  refine ax_land f0_1470 ?_
  refine ax_lor f0_1471 ?_
  refine ax_aload_nS f0_1472 rfl ?_
  refine ax_iload f0_1473 rfl ?_
  refine ax_iconst f0_1475 ?_
  refine ax_iadd f0_1476 ?_
  refine ax_sldO f0_1477 hs (by omega) (by omega) (by omega) ?_
  refine ax_aload_n f0_1478 rfl ?_
  refine ax_csI (rest := []) f0_1479 (Or.inr (Or.inr rfl)) rfl rfl rfl rfl rfl rfl (Wout_x (w a ol)) ?_
  rintro h1 ⟨a, ⟨g1, ol, e1⟩, fq, hl1, hs1, p1, p2⟩
  have b := Mdl_tr b fq
  have hs := hs1.trans hs
  obtain ⟨v', ev, mm⟩ := mdl b
  obtain ⟨⟨_, _, _, _, _, ho1⟩, _⟩ := id b
  refine ax_istore (ls' := [_, _, _, _, _, _, _]) f0_1482 (Nat.le_of_ble_eq_true rfl) rfl ?_
  refine ax_aload_n f0_1484 rfl ?_
  refine ax_aload_nS f0_1485 rfl ?_
  refine ax_iload f0_1486 rfl ?_
  refine ax_iconst f0_1488 ?_
  refine ax_iadd f0_1489 ?_
  refine ax_sldO f0_1490 hs (by omega) (by omega) (by omega) ?_
  refine ax_i2l f0_1491 ?_
  refine ax_bipush f0_1492 ?_
  refine ax_lshl f0_1494 ?_
  refine ax_aload_nS f0_1495 rfl ?_
  refine ax_iload f0_1496 rfl ?_
  refine ax_iconst f0_1498 ?_
  refine ax_iadd f0_1499 ?_
  refine ax_sldO f0_1500 hs (by omega) (by omega) (by omega) ?_
  refine ax_i2l f0_1501 ?_
  refine ax_ldc2_w f0_1502 ?_
  refine ax_land f0_1505 ?_
  refine ax_lor f0_1506 ?_
  refine ax_aload_nS f0_1507 rfl ?_
  refine ax_iload f0_1508 rfl ?_
  refine ax_iconst f0_1510 ?_
  refine ax_iadd f0_1511 ?_
  refine ax_sldO f0_1512 hs (by omega) (by omega) (by omega) ?_
  refine ax_cvI (rest := []) f0_1513 ho1 rfl rfl rfl rfl rfl rfl rfl rfl (Mot_x mm) ?_
  rintro h2 ⟨b, f2⟩
  have a := Cls_mv a f2 (fun q hq => by omega)
  have ol := ol.fr f2 (by omega)
  have f22 := f2.2.1
  have hs := (congrArg Prod.snd f22).trans hs
  have hc2 := congrArg Prod.fst f22
  have p1 : h2.2.1.1 ≤ N1 + 1 := by rw [hc2]; omega
  have p2 : h2.2.1.2 ≤ N2 + 6 := by rw [hc2]; omega
  obtain ⟨⟨_, _, _, _, _, ho2⟩, _⟩ := id b
  refine ax_istore (ls' := [_, _, _, _, _, _, _]) f0_1516 (Nat.le_of_ble_eq_true rfl) rfl ?_
  refine ax_aload_n f0_1518 rfl ?_
  refine ax_cvI (rest := []) f0_1519 ho2 rfl rfl rfl rfl rfl rfl rfl rfl (c_143 (R := R) ho2) ?_
  intro _ e_
  obtain rfl := e_.symm
  clear e_
  refine ax_iload f0_1522 rfl ?_
  refine ax_icmp_eq f0_1524 rfl ⟨by omega, by omega⟩ ⟨by omega, by omega⟩ (fun q1524 => ?_) (fun q1524 => absurd q1524 (by omega))
  refine ax_iload f0_1529 rfl ?_
  refine ax_if_ne f0_1531 rfl ⟨by omega, by omega⟩ (fun q1531 => ?_) (fun q1531 => ?_)
  · refine ax_goto f0_1546 rfl ?_
    exact K ok' a b ol hs p1 p2
  · refine ax_aload_n f0_1534 rfl ?_
    refine ax_iconst f0_1535 ?_
    refine ax_laldO f0_1536 ol (by omega) (by omega) rfl ?_
    rw [e1 (by omega)]
    refine ax_iload f0_1537 rfl ?_
    rw [ev (by omega)]
    refine ax_i2l f0_1539 ?_
    refine ax_lcmpz f0_1540 ?_
    refine ax_if_eq f0_1541 rfl (lcz_in _ _) (fun q1541 => ?_) (fun q1541 => ?_)
    · refine ax_goto f0_1546 rfl ?_
      exact K ok' a b ol hs p1 p2
    · exact absurd (lcz_0.mpr rfl) q1541
theorem law_25 {h : am_H} {R : Int → Int} {S : Int → Int → Int} {c : Int} {G : Nat → Int → Int} {b0 : Int → Int} {T : Int → Int} {L0 : Int} {th : Int} {g : Int → Int64} {L : Nat} {xs : Nat → Int32} {i : Int} {N1 N2 : Nat} {Q : am_R → am_H → Prop} {x5 x6 : Value} (k : okS (R, S, c, G, b0, T, L0)) (a : Cls h (R, S, c, G, b0, T, L0)) (b : Mdl h (R, S, c, G, b0, T, L0) th) (ol : oL h 133 1 g) (hs : h.2.2 = (L, xs)) (n1 : h.2.1.1 ≤ N1) (n2 : h.2.1.2 ≤ N2) (hi : 0 ≤ i ∧ i + 4 ≤ L ∧ L ≤ 2048) (K : LK L xs i N1 N2 Q) : am_X 100 0 1549 [.retAddr 0, .ref 0, .ref 120, .ref 133, .int (iI i), x5, x6] [] h Q := by
  obtain ⟨kd, v, s', ok', hk, w, mdl⟩ := e_21 k (z := (sx xs (i + 1))) sx_in
  refine ax_aload_n f0_1549 rfl ?_
  refine ax_aload_nS f0_1550 rfl ?_
  refine ax_iload f0_1551 rfl ?_
  refine ax_iconst f0_1553 ?_
  refine ax_iadd f0_1554 ?_
  refine ax_sldO f0_1555 hs (by omega) (by omega) (by omega) ?_
  refine ax_aload_n f0_1556 rfl ?_
  refine ax_csI (rest := []) f0_1557 (Or.inr (Or.inr rfl)) rfl rfl rfl rfl rfl rfl (Wout_x (w a ol)) ?_
  rintro h1 ⟨a, ⟨g1, ol, e1⟩, fq, hl1, hs1, p1, p2⟩
  have b := Mdl_tr b fq
  have hs := hs1.trans hs
  obtain ⟨v', ev, mm⟩ := mdl b
  obtain ⟨⟨_, _, _, _, _, ho1⟩, _⟩ := id b
  refine ax_istore (ls' := [_, _, _, _, _, _, _]) f0_1560 (Nat.le_of_ble_eq_true rfl) rfl ?_
  refine ax_aload_n f0_1562 rfl ?_
  refine ax_aload_nS f0_1563 rfl ?_
  refine ax_iload f0_1564 rfl ?_
  refine ax_iconst f0_1566 ?_
  refine ax_iadd f0_1567 ?_
  refine ax_sldO f0_1568 hs (by omega) (by omega) (by omega) ?_
  refine ax_cvI (rest := []) f0_1569 ho1 rfl rfl rfl rfl rfl rfl rfl rfl (Mot_x mm) ?_
  rintro h2 ⟨b, f2⟩
  have a := Cls_mv a f2 (fun q hq => by omega)
  have ol := ol.fr f2 (by omega)
  have f22 := f2.2.1
  have hs := (congrArg Prod.snd f22).trans hs
  have hc2 := congrArg Prod.fst f22
  have p1 : h2.2.1.1 ≤ N1 + 1 := by rw [hc2]; omega
  have p2 : h2.2.1.2 ≤ N2 + 6 := by rw [hc2]; omega
  obtain ⟨⟨_, _, _, _, _, ho2⟩, _⟩ := id b
  refine ax_istore (ls' := [_, _, _, _, _, _, _]) f0_1572 (Nat.le_of_ble_eq_true rfl) rfl ?_
  refine ax_aload_n f0_1574 rfl ?_
  refine ax_cvI (rest := []) f0_1575 ho2 rfl rfl rfl rfl rfl rfl rfl rfl (c_143 (R := R) ho2) ?_
  intro _ e_
  obtain rfl := e_.symm
  clear e_
  refine ax_iload f0_1578 rfl ?_
  refine ax_icmp_eq f0_1580 rfl ⟨by omega, by omega⟩ ⟨by omega, by omega⟩ (fun q1580 => ?_) (fun q1580 => absurd q1580 (by omega))
  refine ax_iload f0_1585 rfl ?_
  refine ax_if_ne f0_1587 rfl ⟨by omega, by omega⟩ (fun q1587 => ?_) (fun q1587 => ?_)
  · refine ax_goto f0_1602 rfl ?_
    exact K ok' a b ol hs p1 p2
  · refine ax_aload_n f0_1590 rfl ?_
    refine ax_iconst f0_1591 ?_
    refine ax_laldO f0_1592 ol (by omega) (by omega) rfl ?_
    rw [e1 (by omega)]
    refine ax_iload f0_1593 rfl ?_
    rw [ev (by omega)]
    refine ax_i2l f0_1595 ?_
    refine ax_lcmpz f0_1596 ?_
    refine ax_if_eq f0_1597 rfl (lcz_in _ _) (fun q1597 => ?_) (fun q1597 => ?_)
    · refine ax_goto f0_1602 rfl ?_
      exact K ok' a b ol hs p1 p2
    · exact absurd (lcz_0.mpr rfl) q1597
theorem law_26 {h : am_H} {R : Int → Int} {S : Int → Int → Int} {c : Int} {G : Nat → Int → Int} {b0 : Int → Int} {T : Int → Int} {L0 : Int} {th : Int} {g : Int → Int64} {L : Nat} {xs : Nat → Int32} {i : Int} {N1 N2 : Nat} {Q : am_R → am_H → Prop} {x5 x6 : Value} (k : okS (R, S, c, G, b0, T, L0)) (a : Cls h (R, S, c, G, b0, T, L0)) (b : Mdl h (R, S, c, G, b0, T, L0) th) (ol : oL h 133 1 g) (hs : h.2.2 = (L, xs)) (n1 : h.2.1.1 ≤ N1) (n2 : h.2.1.2 ≤ N2) (hi : 0 ≤ i ∧ i + 4 ≤ L ∧ L ≤ 2048) (K : LK L xs i N1 N2 Q) : am_X 100 0 1605 [.retAddr 0, .ref 0, .ref 120, .ref 133, .int (iI i), x5, x6] [] h Q := by
  obtain ⟨kd, v, s', ok', hk, w, mdl⟩ := e_22 k (z := (sx xs (i + 1))) sx_in
  refine ax_aload_n f0_1605 rfl ?_
  refine ax_aload_nS f0_1606 rfl ?_
  refine ax_iload f0_1607 rfl ?_
  refine ax_iconst f0_1609 ?_
  refine ax_iadd f0_1610 ?_
  refine ax_sldO f0_1611 hs (by omega) (by omega) (by omega) ?_
  refine ax_aload_n f0_1612 rfl ?_
  refine ax_csI (rest := []) f0_1613 (Or.inr (Or.inr rfl)) rfl rfl rfl rfl rfl rfl (Wout_x (w a ol)) ?_
  rintro h1 ⟨a, ⟨g1, ol, e1⟩, fq, hl1, hs1, p1, p2⟩
  have b := Mdl_tr b fq
  have hs := hs1.trans hs
  obtain ⟨v', ev, mm⟩ := mdl b
  obtain ⟨⟨_, _, _, _, _, ho1⟩, _⟩ := id b
  refine ax_istore (ls' := [_, _, _, _, _, _, _]) f0_1616 (Nat.le_of_ble_eq_true rfl) rfl ?_
  refine ax_aload_n f0_1618 rfl ?_
  refine ax_aload_nS f0_1619 rfl ?_
  refine ax_iload f0_1620 rfl ?_
  refine ax_iconst f0_1622 ?_
  refine ax_iadd f0_1623 ?_
  refine ax_sldO f0_1624 hs (by omega) (by omega) (by omega) ?_
  refine ax_cvI (rest := []) f0_1625 ho1 rfl rfl rfl rfl rfl rfl rfl rfl (Mot_x mm) ?_
  rintro h2 ⟨b, f2⟩
  have a := Cls_mv a f2 (fun q hq => by omega)
  have ol := ol.fr f2 (by omega)
  have f22 := f2.2.1
  have hs := (congrArg Prod.snd f22).trans hs
  have hc2 := congrArg Prod.fst f22
  have p1 : h2.2.1.1 ≤ N1 + 1 := by rw [hc2]; omega
  have p2 : h2.2.1.2 ≤ N2 + 6 := by rw [hc2]; omega
  obtain ⟨⟨_, _, _, _, _, ho2⟩, _⟩ := id b
  refine ax_istore (ls' := [_, _, _, _, _, _, _]) f0_1628 (Nat.le_of_ble_eq_true rfl) rfl ?_
  refine ax_aload_n f0_1630 rfl ?_
  refine ax_cvI (rest := []) f0_1631 ho2 rfl rfl rfl rfl rfl rfl rfl rfl (c_143 (R := R) ho2) ?_
  intro _ e_
  obtain rfl := e_.symm
  clear e_
  refine ax_iload f0_1634 rfl ?_
  refine ax_icmp_eq f0_1636 rfl ⟨by omega, by omega⟩ ⟨by omega, by omega⟩ (fun q1636 => ?_) (fun q1636 => absurd q1636 (by omega))
  refine ax_iload f0_1641 rfl ?_
  refine ax_if_ne f0_1643 rfl ⟨by omega, by omega⟩ (fun q1643 => ?_) (fun q1643 => ?_)
  · refine ax_goto f0_1658 rfl ?_
    exact K ok' a b ol hs p1 p2
  · refine ax_aload_n f0_1646 rfl ?_
    refine ax_iconst f0_1647 ?_
    refine ax_laldO f0_1648 ol (by omega) (by omega) rfl ?_
    rw [e1 (by omega)]
    refine ax_iload f0_1649 rfl ?_
    rw [ev (by omega)]
    refine ax_i2l f0_1651 ?_
    refine ax_lcmpz f0_1652 ?_
    refine ax_if_eq f0_1653 rfl (lcz_in _ _) (fun q1653 => ?_) (fun q1653 => ?_)
    · refine ax_goto f0_1658 rfl ?_
      exact K ok' a b ol hs p1 p2
    · exact absurd (lcz_0.mpr rfl) q1653
end LAW
