/-! ===== the switch over the actions ===== -/
section ACW
theorem c_146_0 {h : am_H} {R : Int → Int} (L0 : Lst h R) (hl : 127 ≤ h.1.length) (x : Int32) : am_X 57 146 0 (am_ent 146 [.ref 0, .ref 120, .ref 121, .ref 122, .ref 123, .ref 124, .ref 125, .ref 126, .int (iI 0), .int x]) [] h (fun r h' => rI r 1 ∧ ∃ (R' : Int → Int) (nc ms : Nat), nc ≤ 5 ∧ ms ≤ 256 ∧ Lst h' R' ∧ gx (fun q => q < 127) h h' nc ms) := by
  show am_X 57 146 0 [.ref 0, .ref 120, .ref 121, .ref 122, .ref 123, .ref 124, .ref 125, .ref 126, .int (iI 0), .int x, am_u, am_u, am_u] [] h _
  refine ax_iload f146_0 rfl ?_
  refine ax_tswI f146_2 ⟨by omega, by omega⟩ (by omega) (by omega) rfl rfl ?_
  refine ax_aload_n f146_60 rfl ?_
  refine ax_aload_n f146_61 rfl ?_
  refine ax_iload f146_62 rfl ?_
  refine ax_iconst f146_64 ?_
  refine ax_ishr f146_65 ?_
  refine ax_bipush f146_66 ?_
  refine ax_csI (rest := [_, _]) f146_68 (Or.inl rfl) rfl rfl rfl rfl rfl rfl (c_2 (by omega) (by omega)) ?_
  intro _ e_
  obtain rfl := e_.symm
  clear e_
  have bu1 := lwz_in (x >>> (iI 3 &&& 31)) (n := 48) (by omega)
  generalize lwz (x >>> (iI 3 &&& 31)) 48 = u1 at bu1 ⊢
  refine ax_iload f146_71 rfl ?_
  refine ax_bipush f146_73 ?_
  refine ax_ishr f146_75 ?_
  refine ax_iconst f146_76 ?_
  refine ax_csI (rest := [_, _, _]) f146_77 (Or.inl rfl) rfl rfl rfl rfl rfl rfl (c_2 (by omega) (by omega)) ?_
  intro _ e_
  obtain rfl := e_.symm
  clear e_
  have bu2 := lwz_in (x >>> (iI 9 &&& 31)) (n := 3) (by omega)
  generalize lwz (x >>> (iI 9 &&& 31)) 3 = u2 at bu2 ⊢
  refine ax_if_le f146_80 rfl ⟨by omega, by omega⟩ (fun q80 => ?_) (fun q80 => ?_)
  · refine ax_iconst f146_87 ?_
    refine ax_csI (rest := []) f146_88 (Or.inl rfl) rfl rfl rfl rfl rfl rfl (c_145 L0 ⟨by omega, by omega⟩ (Or.inl rfl)) ?_
    rintro hh9 hp9
    refine ax_ireturn f146_91 rfl rfl ?_
    exact ⟨rfl, hp9⟩
  · refine ax_iconst f146_83 ?_
    refine ax_goto f146_84 rfl ?_
    refine ax_csI (rest := []) f146_88 (Or.inl rfl) rfl rfl rfl rfl rfl rfl (c_145 L0 ⟨by omega, by omega⟩ (Or.inr rfl)) ?_
    rintro hh9 hp9
    refine ax_ireturn f146_91 rfl rfl ?_
    exact ⟨rfl, hp9⟩
theorem c_146_1 {h : am_H} {R : Int → Int} (L0 : Lst h R) (hl : 127 ≤ h.1.length) (x : Int32) : am_X 57 146 0 (am_ent 146 [.ref 0, .ref 120, .ref 121, .ref 122, .ref 123, .ref 124, .ref 125, .ref 126, .int (iI 1), .int x]) [] h (fun r h' => rI r 1 ∧ ∃ (R' : Int → Int) (nc ms : Nat), nc ≤ 5 ∧ ms ≤ 256 ∧ Lst h' R' ∧ gx (fun q => q < 127) h h' nc ms) := by
  show am_X 57 146 0 [.ref 0, .ref 120, .ref 121, .ref 122, .ref 123, .ref 124, .ref 125, .ref 126, .int (iI 1), .int x, am_u, am_u, am_u] [] h _
  refine ax_iload f146_0 rfl ?_
  refine ax_tswI f146_2 ⟨by omega, by omega⟩ (by omega) (by omega) rfl rfl ?_
  refine ax_aload_n f146_60 rfl ?_
  refine ax_aload_n f146_61 rfl ?_
  refine ax_iload f146_62 rfl ?_
  refine ax_iconst f146_64 ?_
  refine ax_ishr f146_65 ?_
  refine ax_bipush f146_66 ?_
  refine ax_csI (rest := [_, _]) f146_68 (Or.inl rfl) rfl rfl rfl rfl rfl rfl (c_2 (by omega) (by omega)) ?_
  intro _ e_
  obtain rfl := e_.symm
  clear e_
  have bu1 := lwz_in (x >>> (iI 3 &&& 31)) (n := 48) (by omega)
  generalize lwz (x >>> (iI 3 &&& 31)) 48 = u1 at bu1 ⊢
  refine ax_iload f146_71 rfl ?_
  refine ax_bipush f146_73 ?_
  refine ax_ishr f146_75 ?_
  refine ax_iconst f146_76 ?_
  refine ax_csI (rest := [_, _, _]) f146_77 (Or.inl rfl) rfl rfl rfl rfl rfl rfl (c_2 (by omega) (by omega)) ?_
  intro _ e_
  obtain rfl := e_.symm
  clear e_
  have bu2 := lwz_in (x >>> (iI 9 &&& 31)) (n := 3) (by omega)
  generalize lwz (x >>> (iI 9 &&& 31)) 3 = u2 at bu2 ⊢
  refine ax_if_le f146_80 rfl ⟨by omega, by omega⟩ (fun q80 => ?_) (fun q80 => ?_)
  · refine ax_iconst f146_87 ?_
    refine ax_csI (rest := []) f146_88 (Or.inl rfl) rfl rfl rfl rfl rfl rfl (c_145 L0 ⟨by omega, by omega⟩ (Or.inl rfl)) ?_
    rintro hh9 hp9
    refine ax_ireturn f146_91 rfl rfl ?_
    exact ⟨rfl, hp9⟩
  · refine ax_iconst f146_83 ?_
    refine ax_goto f146_84 rfl ?_
    refine ax_csI (rest := []) f146_88 (Or.inl rfl) rfl rfl rfl rfl rfl rfl (c_145 L0 ⟨by omega, by omega⟩ (Or.inr rfl)) ?_
    rintro hh9 hp9
    refine ax_ireturn f146_91 rfl rfl ?_
    exact ⟨rfl, hp9⟩
theorem c_146_2 {h : am_H} {R : Int → Int} (L0 : Lst h R) (hl : 127 ≤ h.1.length) (x : Int32) : am_X 57 146 0 (am_ent 146 [.ref 0, .ref 120, .ref 121, .ref 122, .ref 123, .ref 124, .ref 125, .ref 126, .int (iI 2), .int x]) [] h (fun r h' => rI r 1 ∧ ∃ (R' : Int → Int) (nc ms : Nat), nc ≤ 5 ∧ ms ≤ 256 ∧ Lst h' R' ∧ gx (fun q => q < 127) h h' nc ms) := by
  show am_X 57 146 0 [.ref 0, .ref 120, .ref 121, .ref 122, .ref 123, .ref 124, .ref 125, .ref 126, .int (iI 2), .int x, am_u, am_u, am_u] [] h _
  refine ax_iload f146_0 rfl ?_
  refine ax_tswI f146_2 ⟨by omega, by omega⟩ (by omega) (by omega) rfl rfl ?_
  refine ax_aload_n f146_60 rfl ?_
  refine ax_aload_n f146_61 rfl ?_
  refine ax_iload f146_62 rfl ?_
  refine ax_iconst f146_64 ?_
  refine ax_ishr f146_65 ?_
  refine ax_bipush f146_66 ?_
  refine ax_csI (rest := [_, _]) f146_68 (Or.inl rfl) rfl rfl rfl rfl rfl rfl (c_2 (by omega) (by omega)) ?_
  intro _ e_
  obtain rfl := e_.symm
  clear e_
  have bu1 := lwz_in (x >>> (iI 3 &&& 31)) (n := 48) (by omega)
  generalize lwz (x >>> (iI 3 &&& 31)) 48 = u1 at bu1 ⊢
  refine ax_iload f146_71 rfl ?_
  refine ax_bipush f146_73 ?_
  refine ax_ishr f146_75 ?_
  refine ax_iconst f146_76 ?_
  refine ax_csI (rest := [_, _, _]) f146_77 (Or.inl rfl) rfl rfl rfl rfl rfl rfl (c_2 (by omega) (by omega)) ?_
  intro _ e_
  obtain rfl := e_.symm
  clear e_
  have bu2 := lwz_in (x >>> (iI 9 &&& 31)) (n := 3) (by omega)
  generalize lwz (x >>> (iI 9 &&& 31)) 3 = u2 at bu2 ⊢
  refine ax_if_le f146_80 rfl ⟨by omega, by omega⟩ (fun q80 => ?_) (fun q80 => ?_)
  · refine ax_iconst f146_87 ?_
    refine ax_csI (rest := []) f146_88 (Or.inl rfl) rfl rfl rfl rfl rfl rfl (c_145 L0 ⟨by omega, by omega⟩ (Or.inl rfl)) ?_
    rintro hh9 hp9
    refine ax_ireturn f146_91 rfl rfl ?_
    exact ⟨rfl, hp9⟩
  · refine ax_iconst f146_83 ?_
    refine ax_goto f146_84 rfl ?_
    refine ax_csI (rest := []) f146_88 (Or.inl rfl) rfl rfl rfl rfl rfl rfl (c_145 L0 ⟨by omega, by omega⟩ (Or.inr rfl)) ?_
    rintro hh9 hp9
    refine ax_ireturn f146_91 rfl rfl ?_
    exact ⟨rfl, hp9⟩
theorem c_146_3 {h : am_H} {R : Int → Int} (L0 : Lst h R) (hl : 127 ≤ h.1.length) (x : Int32) : am_X 57 146 0 (am_ent 146 [.ref 0, .ref 120, .ref 121, .ref 122, .ref 123, .ref 124, .ref 125, .ref 126, .int (iI 3), .int x]) [] h (fun r h' => rI r 1 ∧ ∃ (R' : Int → Int) (nc ms : Nat), nc ≤ 5 ∧ ms ≤ 256 ∧ Lst h' R' ∧ gx (fun q => q < 127) h h' nc ms) := by
  show am_X 57 146 0 [.ref 0, .ref 120, .ref 121, .ref 122, .ref 123, .ref 124, .ref 125, .ref 126, .int (iI 3), .int x, am_u, am_u, am_u] [] h _
  refine ax_iload f146_0 rfl ?_
  refine ax_tswI f146_2 ⟨by omega, by omega⟩ (by omega) (by omega) rfl rfl ?_
  refine ax_aload_n f146_92 rfl ?_
  refine ax_aload_n f146_93 rfl ?_
  refine ax_iload f146_94 rfl ?_
  refine ax_iconst f146_96 ?_
  refine ax_ishr f146_97 ?_
  refine ax_bipush f146_98 ?_
  refine ax_csI (rest := [_, _]) f146_100 (Or.inl rfl) rfl rfl rfl rfl rfl rfl (c_2 (by omega) (by omega)) ?_
  intro _ e_
  obtain rfl := e_.symm
  clear e_
  have bu1 := lwz_in (x >>> (iI 3 &&& 31)) (n := 48) (by omega)
  generalize lwz (x >>> (iI 3 &&& 31)) 48 = u1 at bu1 ⊢
  refine ax_iconst f146_103 ?_
  refine ax_iload f146_104 rfl ?_
  refine ax_bipush f146_106 ?_
  refine ax_ishr f146_108 ?_
  refine ax_iload f146_109 rfl ?_
  refine ax_iconst f146_111 ?_
  refine ax_csI (rest := [_, _, _, _, _]) f146_112 (Or.inl rfl) rfl rfl rfl rfl rfl rfl (c_2 (by omega) (by omega)) ?_
  intro _ e_
  obtain rfl := e_.symm
  clear e_
  have bu2 := lwz_in x (n := 3) (by omega)
  generalize lwz x 3 = u2 at bu2 ⊢
  refine ax_if_ne f146_115 rfl ⟨by omega, by omega⟩ (fun q115 => ?_) (fun q115 => ?_)
  · refine ax_bipush f146_123 ?_
    refine ax_csI (rest := [_, _, _, _]) f146_125 (Or.inl rfl) rfl rfl rfl rfl rfl rfl (c_2 (by omega) (by omega)) ?_
    intro _ e_
    obtain rfl := e_.symm
    clear e_
    have bu3 := lwz_in (x >>> (iI 9 &&& 31)) (n := 6) (by omega)
    generalize lwz (x >>> (iI 9 &&& 31)) 6 = u3 at bu3 ⊢
    refine ax_iadd f146_128 ?_
    refine ax_csI (rest := []) f146_129 (Or.inl rfl) rfl rfl rfl rfl rfl rfl (c_144 L0 ⟨by omega, by omega⟩ ⟨by omega, by omega⟩) ?_
    rintro hh9 hp9
    refine ax_ireturn f146_132 rfl rfl ?_
    exact ⟨rfl, hp9⟩
  · refine ax_bipush f146_118 ?_
    refine ax_goto f146_120 rfl ?_
    refine ax_csI (rest := [_, _, _, _]) f146_125 (Or.inl rfl) rfl rfl rfl rfl rfl rfl (c_2 (by omega) (by omega)) ?_
    intro _ e_
    obtain rfl := e_.symm
    clear e_
    have bu3 := lwz_in (x >>> (iI 9 &&& 31)) (n := 99) (by omega)
    generalize lwz (x >>> (iI 9 &&& 31)) 99 = u3 at bu3 ⊢
    refine ax_iadd f146_128 ?_
    refine ax_csI (rest := []) f146_129 (Or.inl rfl) rfl rfl rfl rfl rfl rfl (c_144 L0 ⟨by omega, by omega⟩ ⟨by omega, by omega⟩) ?_
    rintro hh9 hp9
    refine ax_ireturn f146_132 rfl rfl ?_
    exact ⟨rfl, hp9⟩
theorem c_146_4 {h : am_H} {R : Int → Int} (L0 : Lst h R) (hl : 127 ≤ h.1.length) (x : Int32) : am_X 57 146 0 (am_ent 146 [.ref 0, .ref 120, .ref 121, .ref 122, .ref 123, .ref 124, .ref 125, .ref 126, .int (iI 4), .int x]) [] h (fun r h' => rI r 1 ∧ ∃ (R' : Int → Int) (nc ms : Nat), nc ≤ 5 ∧ ms ≤ 256 ∧ Lst h' R' ∧ gx (fun q => q < 127) h h' nc ms) := by
  show am_X 57 146 0 [.ref 0, .ref 120, .ref 121, .ref 122, .ref 123, .ref 124, .ref 125, .ref 126, .int (iI 4), .int x, am_u, am_u, am_u] [] h _
  refine ax_iload f146_0 rfl ?_
  refine ax_tswI f146_2 ⟨by omega, by omega⟩ (by omega) (by omega) rfl rfl ?_
  refine ax_aload_n f146_133 rfl ?_
  refine ax_aload f146_134 rfl ?_
  refine ax_aload f146_136 rfl ?_
  refine ax_aload f146_138 rfl ?_
  refine ax_iconst f146_140 ?_
  refine ax_iload f146_141 rfl ?_
  refine ax_iconst f146_143 ?_
  refine ax_ishr f146_144 ?_
  refine ax_bipush f146_145 ?_
  refine ax_csI (rest := [_, _, _, _, _]) f146_147 (Or.inl rfl) rfl rfl rfl rfl rfl rfl (c_2 (by omega) (by omega)) ?_
  intro _ e_
  obtain rfl := e_.symm
  clear e_
  have bu1 := lwz_in (x >>> (iI 3 &&& 31)) (n := 47) (by omega)
  generalize lwz (x >>> (iI 3 &&& 31)) 47 = u1 at bu1 ⊢
  refine ax_iadd f146_150 ?_
  refine ax_iload f146_151 rfl ?_
  refine ax_bipush f146_153 ?_
  refine ax_ishr f146_155 ?_
  refine ax_iconst f146_156 ?_
  refine ax_csI (rest := [_, _, _, _, _]) f146_157 (Or.inl rfl) rfl rfl rfl rfl rfl rfl (c_2 (by omega) (by omega)) ?_
  intro _ e_
  obtain rfl := e_.symm
  clear e_
  have bu2 := lwz_in (x >>> (iI 9 &&& 31)) (n := 4) (by omega)
  generalize lwz (x >>> (iI 9 &&& 31)) 4 = u2 at bu2 ⊢
  refine ax_if_le f146_160 rfl ⟨by omega, by omega⟩ (fun q160 => ?_) (fun q160 => ?_)
  · refine ax_iconst f146_167 ?_
    refine ax_csI (rest := []) f146_168 (Or.inl rfl) rfl rfl rfl rfl rfl rfl (c_21 L0 ⟨by omega, by omega⟩ (Or.inl rfl)) ?_
    rintro hh9 hp9
    refine ax_ireturn f146_171 rfl rfl ?_
    exact ⟨rfl, hp9⟩
  · refine ax_iconst f146_163 ?_
    refine ax_goto f146_164 rfl ?_
    refine ax_csI (rest := []) f146_168 (Or.inl rfl) rfl rfl rfl rfl rfl rfl (c_21 L0 ⟨by omega, by omega⟩ (Or.inr rfl)) ?_
    rintro hh9 hp9
    refine ax_ireturn f146_171 rfl rfl ?_
    exact ⟨rfl, hp9⟩
theorem c_146_5 {h : am_H} {R : Int → Int} (L0 : Lst h R) (hl : 127 ≤ h.1.length) (x : Int32) : am_X 57 146 0 (am_ent 146 [.ref 0, .ref 120, .ref 121, .ref 122, .ref 123, .ref 124, .ref 125, .ref 126, .int (iI 5), .int x]) [] h (fun r h' => rI r 1 ∧ ∃ (R' : Int → Int) (nc ms : Nat), nc ≤ 5 ∧ ms ≤ 256 ∧ Lst h' R' ∧ gx (fun q => q < 127) h h' nc ms) := by
  show am_X 57 146 0 [.ref 0, .ref 120, .ref 121, .ref 122, .ref 123, .ref 124, .ref 125, .ref 126, .int (iI 5), .int x, am_u, am_u, am_u] [] h _
  refine ax_iload f146_0 rfl ?_
  refine ax_tswI f146_2 ⟨by omega, by omega⟩ (by omega) (by omega) rfl rfl ?_
  refine ax_aload_n f146_133 rfl ?_
  refine ax_aload f146_134 rfl ?_
  refine ax_aload f146_136 rfl ?_
  refine ax_aload f146_138 rfl ?_
  refine ax_iconst f146_140 ?_
  refine ax_iload f146_141 rfl ?_
  refine ax_iconst f146_143 ?_
  refine ax_ishr f146_144 ?_
  refine ax_bipush f146_145 ?_
  refine ax_csI (rest := [_, _, _, _, _]) f146_147 (Or.inl rfl) rfl rfl rfl rfl rfl rfl (c_2 (by omega) (by omega)) ?_
  intro _ e_
  obtain rfl := e_.symm
  clear e_
  have bu1 := lwz_in (x >>> (iI 3 &&& 31)) (n := 47) (by omega)
  generalize lwz (x >>> (iI 3 &&& 31)) 47 = u1 at bu1 ⊢
  refine ax_iadd f146_150 ?_
  refine ax_iload f146_151 rfl ?_
  refine ax_bipush f146_153 ?_
  refine ax_ishr f146_155 ?_
  refine ax_iconst f146_156 ?_
  refine ax_csI (rest := [_, _, _, _, _]) f146_157 (Or.inl rfl) rfl rfl rfl rfl rfl rfl (c_2 (by omega) (by omega)) ?_
  intro _ e_
  obtain rfl := e_.symm
  clear e_
  have bu2 := lwz_in (x >>> (iI 9 &&& 31)) (n := 4) (by omega)
  generalize lwz (x >>> (iI 9 &&& 31)) 4 = u2 at bu2 ⊢
  refine ax_if_le f146_160 rfl ⟨by omega, by omega⟩ (fun q160 => ?_) (fun q160 => ?_)
  · refine ax_iconst f146_167 ?_
    refine ax_csI (rest := []) f146_168 (Or.inl rfl) rfl rfl rfl rfl rfl rfl (c_21 L0 ⟨by omega, by omega⟩ (Or.inl rfl)) ?_
    rintro hh9 hp9
    refine ax_ireturn f146_171 rfl rfl ?_
    exact ⟨rfl, hp9⟩
  · refine ax_iconst f146_163 ?_
    refine ax_goto f146_164 rfl ?_
    refine ax_csI (rest := []) f146_168 (Or.inl rfl) rfl rfl rfl rfl rfl rfl (c_21 L0 ⟨by omega, by omega⟩ (Or.inr rfl)) ?_
    rintro hh9 hp9
    refine ax_ireturn f146_171 rfl rfl ?_
    exact ⟨rfl, hp9⟩
theorem c_146_6 {h : am_H} {R : Int → Int} (L0 : Lst h R) (hl : 127 ≤ h.1.length) (x : Int32) : am_X 57 146 0 (am_ent 146 [.ref 0, .ref 120, .ref 121, .ref 122, .ref 123, .ref 124, .ref 125, .ref 126, .int (iI 6), .int x]) [] h (fun r h' => rI r 1 ∧ ∃ (R' : Int → Int) (nc ms : Nat), nc ≤ 5 ∧ ms ≤ 256 ∧ Lst h' R' ∧ gx (fun q => q < 127) h h' nc ms) := by
  show am_X 57 146 0 [.ref 0, .ref 120, .ref 121, .ref 122, .ref 123, .ref 124, .ref 125, .ref 126, .int (iI 6), .int x, am_u, am_u, am_u] [] h _
  refine ax_iload f146_0 rfl ?_
  refine ax_tswI f146_2 ⟨by omega, by omega⟩ (by omega) (by omega) rfl rfl ?_
  refine ax_aload_n f146_172 rfl ?_
  refine ax_aload_n f146_173 rfl ?_
  refine ax_aload f146_174 rfl ?_
  refine ax_aload f146_176 rfl ?_
  refine ax_aload f146_178 rfl ?_
  refine ax_iconst f146_180 ?_
  refine ax_iload f146_181 rfl ?_
  refine ax_iconst f146_183 ?_
  refine ax_ishr f146_184 ?_
  refine ax_bipush f146_185 ?_
  refine ax_csI (rest := [_, _, _, _, _, _]) f146_187 (Or.inl rfl) rfl rfl rfl rfl rfl rfl (c_2 (by omega) (by omega)) ?_
  intro _ e_
  obtain rfl := e_.symm
  clear e_
  have bu1 := lwz_in (x >>> (iI 3 &&& 31)) (n := 11) (by omega)
  generalize lwz (x >>> (iI 3 &&& 31)) 11 = u1 at bu1 ⊢
  refine ax_iadd f146_190 ?_
  refine ax_csI (rest := []) f146_191 (Or.inl rfl) rfl rfl rfl rfl rfl rfl (c_22 L0 ⟨by omega, by omega⟩) ?_
  rintro hh9 hp9
  refine ax_ireturn f146_194 rfl rfl ?_
  exact ⟨rfl, hp9⟩
theorem c_146_7 {h : am_H} {R : Int → Int} (L0 : Lst h R) (hl : 127 ≤ h.1.length) (x : Int32) : am_X 57 146 0 (am_ent 146 [.ref 0, .ref 120, .ref 121, .ref 122, .ref 123, .ref 124, .ref 125, .ref 126, .int (iI 7), .int x]) [] h (fun r h' => rI r 1 ∧ ∃ (R' : Int → Int) (nc ms : Nat), nc ≤ 5 ∧ ms ≤ 256 ∧ Lst h' R' ∧ gx (fun q => q < 127) h h' nc ms) := by
  show am_X 57 146 0 [.ref 0, .ref 120, .ref 121, .ref 122, .ref 123, .ref 124, .ref 125, .ref 126, .int (iI 7), .int x, am_u, am_u, am_u] [] h _
  have L1 := L0
  obtain ⟨cl, w, a, l, f, b, t, nN⟩ := L1
  have i := cl.i
  have b12 := i.b12
  have b1 := blk_1 i.ff
  have F : fr (fun q => q < 127) h h := fr_rf
  have tr := i.tr
  refine ax_iload f146_0 rfl ?_
  refine ax_tswI f146_2 ⟨by omega, by omega⟩ (by omega) (by omega) rfl rfl ?_
  refine ax_iload f146_195 rfl ?_
  refine ax_iconst f146_197 ?_
  refine ax_ishr f146_198 ?_
  refine ax_aload f146_199 rfl ?_
  refine ax_csI (rest := [_]) f146_201 (Or.inl rfl) rfl rfl rfl rfl rfl rfl (c_3 f) ?_
  intro _ e_
  obtain rfl := e_.symm
  clear e_
  refine ax_csI (rest := []) f146_204 (Or.inl rfl) rfl rfl rfl rfl rfl rfl (c_2 (by omega) (by omega)) ?_
  intro _ e_
  obtain rfl := e_.symm
  clear e_
  have bu1 := lwz_in (x >>> (iI 3 &&& 31)) (n := (blk R)) (by omega)
  generalize lwz (x >>> (iI 3 &&& 31)) (blk R) = u1 at bu1 ⊢
  refine ax_istore (ls' := [_, _, _, _, _, _, _, _, _, _, _, _, _]) f146_207 (Nat.le_of_ble_eq_true rfl) rfl ?_
  refine ax_aload f146_209 rfl ?_
  refine ax_bipush f146_211 ?_
  refine ax_iload f146_213 rfl ?_
  refine ax_iadd f146_215 ?_
  refine ax_ialdO f146_216 (by decide) b (by omega) (by omega) rfl ?_
  rw [show 193 + (12 + u1) = 205 + u1 by omega]
  have li := i.li (r := u1) (by omega) (by omega)
  refine ax_istore (ls' := [_, _, _, _, _, _, _, _, _, _, _, _, _]) f146_217 (Nat.le_of_ble_eq_true rfl) rfl ?_
  refine ax_aload f146_219 rfl ?_
  refine ax_bipush f146_221 ?_
  refine ax_iload f146_223 rfl ?_
  refine ax_iadd f146_225 ?_
  refine ax_iload f146_226 rfl ?_
  refine ax_bipush f146_228 ?_
  refine ax_ishr f146_230 ?_
  refine ax_iconst f146_231 ?_
  refine ax_csI (rest := [_, _]) f146_232 (Or.inl rfl) rfl rfl rfl rfl rfl rfl (c_2 (by omega) (by omega)) ?_
  intro _ e_
  obtain rfl := e_.symm
  clear e_
  have bu2 := lwz_in (x >>> (iI 7 &&& 31)) (n := 5) (by omega)
  generalize lwz (x >>> (iI 7 &&& 31)) 5 = u2 at bu2 ⊢
  refine ax_iconst f146_235 ?_
  refine ax_isub f146_236 ?_
  refine ax_iastO f146_237 b (by omega) (by omega) rfl (fun hp3 o3 r3 => ?_)
  have cl := cl.fr r3 (fun q hq => by omega)
  have w := w.fr r3 (by omega)
  have a := a.fr r3 (by omega)
  have l := l.fr r3 (by omega)
  have f := f.fr r3 (by omega)
  have b := o3
  have t := t.fr r3 (by omega)
  have nN := nN.fr r3 (by omega)
  have F := F.trans (r3.mono fun x e => by omega)
  refine ax_aload_n f146_238 rfl ?_
  refine ax_iload f146_239 rfl ?_
  refine ax_aload f146_241 rfl ?_
  refine ax_bipush f146_243 ?_
  refine ax_iload f146_245 rfl ?_
  refine ax_iadd f146_247 ?_
  refine ax_ialdO f146_248 (by decide) b (by omega) (by omega) rfl ?_
  rw [uZ_s]
  refine ax_cvI (rest := []) f146_249 cl.o rfl rfl rfl rfl rfl rfl rfl rfl (u_118 cl ⟨bu1.1, bu1.2⟩ ⟨by omega, by omega⟩) ?_
  rintro hh4 ⟨cl4, f4⟩
  have cl := cl4
  have w := w.fr f4 (by omega)
  have a := a.fr f4 (by omega)
  have l := l.fr f4 (by omega)
  have f := f.fr f4 (by omega)
  have b := b.fr f4 (by omega)
  have t := t.fr f4 (by omega)
  have nN := nN.fr f4 (by omega)
  have F := F.trans (f4.mono fun x e => by omega)
  refine ax_iload f146_252 rfl ?_
  refine ax_icmp_ne f146_254 rfl ⟨by omega, by omega⟩ ⟨by omega, by omega⟩ (fun q254 => absurd q254 (by omega)) (fun q254 => ?_)
  refine ax_iconst f146_257 ?_
  refine ax_goto f146_258 rfl ?_
  refine ax_ireturn f146_262 rfl rfl ?_
  have eb : ∀ j, 0 ≤ j → j < 24 → uZ R (205 + u1) (u2 - 2) (193 + j) = uZ (fun j => R (193 + j)) (12 + u1) (u2 - 2) j := fun j j1 j2 => by
    unfold uZ
    by_cases c : j = 12 + u1
    · rw [if_pos (by omega), if_pos c]
    · rw [if_neg (by omega), if_neg c]
  exact ⟨rfl, uZ R (205 + u1) (u2 - 2), 0, 0, by decide, by decide, Lst_mk cl w a l f b t nN (fun j j1 j2 => uZ_n (by omega)) (fun j j1 j2 => uZ_n (by omega)) (fun j j1 j2 => uZ_n (by omega)) (fun j j1 j2 => uZ_n (by omega)) eb (fun j j1 j2 => uZ_n (by omega)) (fun j j1 j2 => congrArg iI (nn_cg (fun j hj => uZ_n (by omega)) j)), gx_fr F⟩
theorem c_146_8 {h : am_H} {R : Int → Int} (L0 : Lst h R) (hl : 127 ≤ h.1.length) (x : Int32) : am_X 57 146 0 (am_ent 146 [.ref 0, .ref 120, .ref 121, .ref 122, .ref 123, .ref 124, .ref 125, .ref 126, .int (iI 8), .int x]) [] h (fun r h' => rI r 1 ∧ ∃ (R' : Int → Int) (nc ms : Nat), nc ≤ 5 ∧ ms ≤ 256 ∧ Lst h' R' ∧ gx (fun q => q < 127) h h' nc ms) := by
  show am_X 57 146 0 [.ref 0, .ref 120, .ref 121, .ref 122, .ref 123, .ref 124, .ref 125, .ref 126, .int (iI 8), .int x, am_u, am_u, am_u] [] h _
  refine ax_iload f146_0 rfl ?_
  refine ax_tswI f146_2 ⟨by omega, by omega⟩ (by omega) (by omega) rfl rfl ?_
  refine ax_aload_n f146_263 rfl ?_
  refine ax_aload_n f146_264 rfl ?_
  refine ax_aload_n f146_265 rfl ?_
  refine ax_aload f146_266 rfl ?_
  refine ax_aload f146_268 rfl ?_
  refine ax_aload f146_270 rfl ?_
  refine ax_csI (rest := []) f146_272 (Or.inl rfl) rfl rfl rfl rfl rfl rfl (c_142 L0) ?_
  rintro hh9 hp9
  refine ax_ireturn f146_275 rfl rfl ?_
  exact ⟨rfl, hp9⟩
theorem c_146_9 {h : am_H} {R : Int → Int} (L0 : Lst h R) (hl : 127 ≤ h.1.length) (x : Int32) : am_X 57 146 0 (am_ent 146 [.ref 0, .ref 120, .ref 121, .ref 122, .ref 123, .ref 124, .ref 125, .ref 126, .int (iI 9), .int x]) [] h (fun r h' => rI r 1 ∧ ∃ (R' : Int → Int) (nc ms : Nat), nc ≤ 5 ∧ ms ≤ 256 ∧ Lst h' R' ∧ gx (fun q => q < 127) h h' nc ms) := by
  show am_X 57 146 0 [.ref 0, .ref 120, .ref 121, .ref 122, .ref 123, .ref 124, .ref 125, .ref 126, .int (iI 9), .int x, am_u, am_u, am_u] [] h _
  refine ax_iload f146_0 rfl ?_
  refine ax_tswI f146_2 ⟨by omega, by omega⟩ (by omega) (by omega) rfl rfl ?_
  refine ax_aload_n f146_263 rfl ?_
  refine ax_aload_n f146_264 rfl ?_
  refine ax_aload_n f146_265 rfl ?_
  refine ax_aload f146_266 rfl ?_
  refine ax_aload f146_268 rfl ?_
  refine ax_aload f146_270 rfl ?_
  refine ax_csI (rest := []) f146_272 (Or.inl rfl) rfl rfl rfl rfl rfl rfl (c_142 L0) ?_
  rintro hh9 hp9
  refine ax_ireturn f146_275 rfl rfl ?_
  exact ⟨rfl, hp9⟩
theorem c_146_10 {h : am_H} {R : Int → Int} (L0 : Lst h R) (hl : 127 ≤ h.1.length) (x : Int32) : am_X 57 146 0 (am_ent 146 [.ref 0, .ref 120, .ref 121, .ref 122, .ref 123, .ref 124, .ref 125, .ref 126, .int (iI 10), .int x]) [] h (fun r h' => rI r 1 ∧ ∃ (R' : Int → Int) (nc ms : Nat), nc ≤ 5 ∧ ms ≤ 256 ∧ Lst h' R' ∧ gx (fun q => q < 127) h h' nc ms) := by
  show am_X 57 146 0 [.ref 0, .ref 120, .ref 121, .ref 122, .ref 123, .ref 124, .ref 125, .ref 126, .int (iI 10), .int x, am_u, am_u, am_u] [] h _
  have L1 := L0
  obtain ⟨cl, w, a, l, f, b, t, nN⟩ := L1
  have i := cl.i
  have b12 := i.b12
  have b1 := blk_1 i.ff
  have F : fr (fun q => q < 127) h h := fr_rf
  have tr := i.tr
  refine ax_iload f146_0 rfl ?_
  refine ax_tswI f146_2 ⟨by omega, by omega⟩ (by omega) (by omega) rfl rfl ?_
  refine ax_aload f146_276 rfl ?_
  refine ax_iconst f146_278 ?_
  refine ax_ialdO f146_279 (by decide) nN (by omega) (by omega) rfl ?_
  rw [show nn R 2 = R 269 from rfl]
  refine ax_istore (ls' := [_, _, _, _, _, _, _, _, _, _, _, _, _]) f146_280 (Nat.le_of_ble_eq_true rfl) rfl ?_
  refine ax_aload f146_282 rfl ?_
  refine ax_iconst f146_284 ?_
  refine ax_iload f146_285 rfl ?_
  refine ax_iconst f146_287 ?_
  refine ax_ishr f146_288 ?_
  refine ax_iconst f146_289 ?_
  refine ax_csI (rest := [_, _]) f146_290 (Or.inl rfl) rfl rfl rfl rfl rfl rfl (c_2 (by omega) (by omega)) ?_
  intro _ e_
  obtain rfl := e_.symm
  clear e_
  have bu1 := lwz_in (x >>> (iI 3 &&& 31)) (n := 2) (by omega)
  generalize lwz (x >>> (iI 3 &&& 31)) 2 = u1 at bu1 ⊢
  refine ax_iastO f146_293 nN (by omega) (by omega) rfl (fun hp2 o2 r2 => ?_)
  have cl := cl.fr r2 (fun q hq => by omega)
  have w := w.fr r2 (by omega)
  have a := a.fr r2 (by omega)
  have l := l.fr r2 (by omega)
  have f := f.fr r2 (by omega)
  have b := b.fr r2 (by omega)
  have t := t.fr r2 (by omega)
  have nN := o2
  have F := F.trans (r2.mono fun x e => by omega)
  refine ax_aload_n f146_294 rfl ?_
  refine ax_aload f146_295 rfl ?_
  refine ax_iconst f146_297 ?_
  refine ax_ialdO f146_298 (by decide) nN (by omega) (by omega) rfl ?_
  rw [uZ_s]
  refine ax_cvI (rest := []) f146_299 cl.o rfl rfl rfl rfl rfl rfl rfl rfl (u_121 cl ⟨by omega, by omega⟩) ?_
  rintro hh3 ⟨cl3, f3⟩
  have cl := cl3
  have w := w.fr f3 (by omega)
  have a := a.fr f3 (by omega)
  have l := l.fr f3 (by omega)
  have f := f.fr f3 (by omega)
  have b := b.fr f3 (by omega)
  have t := t.fr f3 (by omega)
  have nN := nN.fr f3 (by omega)
  have F := F.trans (f3.mono fun x e => by omega)
  refine ax_iload f146_302 rfl ?_
  refine ax_icmp_ne f146_304 rfl ⟨by omega, by omega⟩ ⟨by omega, by omega⟩ (fun q304 => absurd q304 (by omega)) (fun q304 => ?_)
  refine ax_iconst f146_307 ?_
  refine ax_goto f146_308 rfl ?_
  refine ax_ireturn f146_312 rfl rfl ?_
  exact ⟨rfl, uZ R 269 u1, 0, 0, by decide, by decide, Lst_mk cl w a l f b t nN (fun j j1 j2 => uZ_n (by omega)) (fun j j1 j2 => uZ_n (by omega)) (fun j j1 j2 => uZ_n (by omega)) (fun j j1 j2 => uZ_n (by omega)) (fun j j1 j2 => uZ_n (by omega)) (fun j j1 j2 => uZ_n (by omega)) (fun j j1 j2 => congrArg iI nn_2), gx_fr F⟩
theorem c_146_s {h : am_H} {R : Int → Int} (L0 : Lst h R) (hl : 127 ≤ h.1.length) {z : Int} (hz : 11 ≤ z ∧ z ≤ 13) (x : Int32) : am_X 57 146 0 (am_ent 146 [.ref 0, .ref 120, .ref 121, .ref 122, .ref 123, .ref 124, .ref 125, .ref 126, .int (iI z), .int x]) [] h (fun r h' => rI r 1 ∧ ∃ (R' : Int → Int) (nc ms : Nat), nc ≤ 5 ∧ ms ≤ 256 ∧ Lst h' R' ∧ gx (fun q => q < 127) h h' nc ms) := by
  show am_X 57 146 0 [.ref 0, .ref 120, .ref 121, .ref 122, .ref 123, .ref 124, .ref 125, .ref 126, .int (iI z), .int x, am_u, am_u, am_u] [] h _
  refine ax_iload f146_0 rfl ?_
  refine ax_tswO f146_2 ⟨by omega, by omega⟩ (by omega) rfl ?_
  refine ax_aload_n f146_313 rfl ?_
  refine ax_aload_n f146_314 rfl ?_
  refine ax_aload_n f146_315 rfl ?_
  refine ax_aload_n f146_316 rfl ?_
  refine ax_aload f146_317 rfl ?_
  refine ax_aload f146_319 rfl ?_
  refine ax_aload f146_321 rfl ?_
  refine ax_aload f146_323 rfl ?_
  refine ax_iload f146_325 rfl ?_
  refine ax_iconst f146_327 ?_
  refine ax_ishr f146_328 ?_
  refine ax_iconst f146_329 ?_
  refine ax_csI (rest := [_, _, _, _, _, _, _, _]) f146_330 (Or.inl rfl) rfl rfl rfl rfl rfl rfl (c_2 (by omega) (by omega)) ?_
  intro _ e_
  obtain rfl := e_.symm
  clear e_
  have bu1 := lwz_in (x >>> (iI 3 &&& 31)) (n := 3) (by omega)
  generalize lwz (x >>> (iI 3 &&& 31)) 3 = u1 at bu1 ⊢
  refine ax_csI (rest := []) f146_333 (Or.inl rfl) rfl rfl rfl rfl rfl rfl (c_143 L0 hl ⟨by omega, by omega⟩) ?_
  rintro hh9 hp9
  refine ax_ireturn f146_336 rfl rfl ?_
  exact ⟨rfl, hp9⟩
theorem c_146 {h : am_H} {R : Int → Int} (L0 : Lst h R) (hl : 127 ≤ h.1.length) {z : Int} (hz : 0 ≤ z ∧ z ≤ 13) (x : Int32) : am_X 57 146 0 (am_ent 146 [.ref 0, .ref 120, .ref 121, .ref 122, .ref 123, .ref 124, .ref 125, .ref 126, .int (iI z), .int x]) [] h (fun r h' => rI r 1 ∧ ∃ (R' : Int → Int) (nc ms : Nat), nc ≤ 5 ∧ ms ≤ 256 ∧ Lst h' R' ∧ gx (fun q => q < 127) h h' nc ms) := by
  rcases (show z = 0 ∨ z = 1 ∨ z = 2 ∨ z = 3 ∨ z = 4 ∨ z = 5 ∨ z = 6 ∨ z = 7 ∨ z = 8 ∨ z = 9 ∨ z = 10 ∨ 11 ≤ z by omega) with e | e | e | e | e | e | e | e | e | e | e | e
  · rw [e]; exact c_146_0 L0 hl x
  · rw [e]; exact c_146_1 L0 hl x
  · rw [e]; exact c_146_2 L0 hl x
  · rw [e]; exact c_146_3 L0 hl x
  · rw [e]; exact c_146_4 L0 hl x
  · rw [e]; exact c_146_5 L0 hl x
  · rw [e]; exact c_146_6 L0 hl x
  · rw [e]; exact c_146_7 L0 hl x
  · rw [e]; exact c_146_8 L0 hl x
  · rw [e]; exact c_146_9 L0 hl x
  · rw [e]; exact c_146_10 L0 hl x
  · exact c_146_s L0 hl ⟨e, hz.2⟩ x
end ACW
