/-! ===== small static methods of the class ===== -/
theorem c_134 {h : am_H} {z : Int} (hz : inI z) : am_X 0 134 0 (am_ent 134 [.int (iI z)]) [] h (fun r h' => rI r (b2i (0 ≤ z ∧ z < 48)) ∧ h' = h) := by
  show am_X 0 134 0 [.int (iI z)] [] h _
  obtain ⟨hz1, hz2⟩ := hz
  refine ax_iload_n f134_0 rfl ?_
  refine ax_if_lt f134_1 rfl ⟨by omega, by omega⟩ (fun q1 => ?_) (fun q1 => ?_)
  · refine ax_iconst f134_14 ?_
    refine ax_ireturn f134_15 rfl rfl ?_
    exact ⟨rI_of (by simp only [b2i]; split <;> omega), rfl⟩
  · refine ax_iload_n f134_4 rfl ?_
    refine ax_bipush f134_5 ?_
    refine ax_icmp_ge f134_7 rfl ⟨by omega, by omega⟩ ⟨by omega, by omega⟩ (fun q7 => ?_) (fun q7 => ?_)
    · refine ax_iconst f134_14 ?_
      refine ax_ireturn f134_15 rfl rfl ?_
      exact ⟨rI_of (by simp only [b2i]; split <;> omega), rfl⟩
    · refine ax_iconst f134_10 ?_
      refine ax_goto f134_11 rfl ?_
      refine ax_ireturn f134_15 rfl rfl ?_
      exact ⟨rI_of (by simp only [b2i]; split <;> omega), rfl⟩
theorem c_135 {h : am_H} {z : Int} (hz : inI z) : am_X 0 135 0 (am_ent 135 [.int (iI z)]) [] h (fun r h' => rI r (b2i (1 ≤ z ∧ z < 48)) ∧ h' = h) := by
  show am_X 0 135 0 [.int (iI z)] [] h _
  obtain ⟨hz1, hz2⟩ := hz
  refine ax_iload_n f135_0 rfl ?_
  refine ax_iconst f135_1 ?_
  refine ax_icmp_lt f135_2 rfl ⟨by omega, by omega⟩ ⟨by omega, by omega⟩ (fun q2 => ?_) (fun q2 => ?_)
  · refine ax_iconst f135_15 ?_
    refine ax_ireturn f135_16 rfl rfl ?_
    exact ⟨rI_of (by simp only [b2i]; split <;> omega), rfl⟩
  · refine ax_iload_n f135_5 rfl ?_
    refine ax_bipush f135_6 ?_
    refine ax_icmp_ge f135_8 rfl ⟨by omega, by omega⟩ ⟨by omega, by omega⟩ (fun q8 => ?_) (fun q8 => ?_)
    · refine ax_iconst f135_15 ?_
      refine ax_ireturn f135_16 rfl rfl ?_
      exact ⟨rI_of (by simp only [b2i]; split <;> omega), rfl⟩
    · refine ax_iconst f135_11 ?_
      refine ax_goto f135_12 rfl ?_
      refine ax_ireturn f135_16 rfl rfl ?_
      exact ⟨rI_of (by simp only [b2i]; split <;> omega), rfl⟩
theorem c_136 {h : am_H} {z : Int} (hz : inI z) : am_X 0 136 0 (am_ent 136 [.int (iI z)]) [] h (fun r h' => rI r (b2i (1 ≤ z ∧ z ≤ 99)) ∧ h' = h) := by
  show am_X 0 136 0 [.int (iI z)] [] h _
  obtain ⟨hz1, hz2⟩ := hz
  refine ax_iload_n f136_0 rfl ?_
  refine ax_iconst f136_1 ?_
  refine ax_icmp_lt f136_2 rfl ⟨by omega, by omega⟩ ⟨by omega, by omega⟩ (fun q2 => ?_) (fun q2 => ?_)
  · refine ax_iconst f136_15 ?_
    refine ax_ireturn f136_16 rfl rfl ?_
    exact ⟨rI_of (by simp only [b2i]; split <;> omega), rfl⟩
  · refine ax_iload_n f136_5 rfl ?_
    refine ax_bipush f136_6 ?_
    refine ax_icmp_gt f136_8 rfl ⟨by omega, by omega⟩ ⟨by omega, by omega⟩ (fun q8 => ?_) (fun q8 => ?_)
    · refine ax_iconst f136_15 ?_
      refine ax_ireturn f136_16 rfl rfl ?_
      exact ⟨rI_of (by simp only [b2i]; split <;> omega), rfl⟩
    · refine ax_iconst f136_11 ?_
      refine ax_goto f136_12 rfl ?_
      refine ax_ireturn f136_16 rfl rfl ?_
      exact ⟨rI_of (by simp only [b2i]; split <;> omega), rfl⟩
theorem c_137 {h : am_H} {z : Int} (hz : inI z) : am_X 0 137 0 (am_ent 137 [.int (iI z)]) [] h (fun r h' => rI r (b2i (-2 ≤ z ∧ z ≤ 2)) ∧ h' = h) := by
  show am_X 0 137 0 [.int (iI z)] [] h _
  obtain ⟨hz1, hz2⟩ := hz
  refine ax_iload_n f137_0 rfl ?_
  refine ax_bipush f137_1 ?_
  refine ax_icmp_lt f137_3 rfl ⟨by omega, by omega⟩ ⟨by omega, by omega⟩ (fun q3 => ?_) (fun q3 => ?_)
  · refine ax_iconst f137_15 ?_
    refine ax_ireturn f137_16 rfl rfl ?_
    exact ⟨rI_of (by simp only [b2i]; split <;> omega), rfl⟩
  · refine ax_iload_n f137_6 rfl ?_
    refine ax_iconst f137_7 ?_
    refine ax_icmp_gt f137_8 rfl ⟨by omega, by omega⟩ ⟨by omega, by omega⟩ (fun q8 => ?_) (fun q8 => ?_)
    · refine ax_iconst f137_15 ?_
      refine ax_ireturn f137_16 rfl rfl ?_
      exact ⟨rI_of (by simp only [b2i]; split <;> omega), rfl⟩
    · refine ax_iconst f137_11 ?_
      refine ax_goto f137_12 rfl ?_
      refine ax_ireturn f137_16 rfl rfl ?_
      exact ⟨rI_of (by simp only [b2i]; split <;> omega), rfl⟩
theorem c_138 {h : am_H} {z : Int} (hz : inI z) : am_X 0 138 0 (am_ent 138 [.int (iI z)]) [] h (fun r h' => rI r (b2i (1 ≤ z ∧ z ≤ 11)) ∧ h' = h) := by
  show am_X 0 138 0 [.int (iI z)] [] h _
  obtain ⟨hz1, hz2⟩ := hz
  refine ax_iload_n f138_0 rfl ?_
  refine ax_iconst f138_1 ?_
  refine ax_icmp_lt f138_2 rfl ⟨by omega, by omega⟩ ⟨by omega, by omega⟩ (fun q2 => ?_) (fun q2 => ?_)
  · refine ax_iconst f138_15 ?_
    refine ax_ireturn f138_16 rfl rfl ?_
    exact ⟨rI_of (by simp only [b2i]; split <;> omega), rfl⟩
  · refine ax_iload_n f138_5 rfl ?_
    refine ax_bipush f138_6 ?_
    refine ax_icmp_gt f138_8 rfl ⟨by omega, by omega⟩ ⟨by omega, by omega⟩ (fun q8 => ?_) (fun q8 => ?_)
    · refine ax_iconst f138_15 ?_
      refine ax_ireturn f138_16 rfl rfl ?_
      exact ⟨rI_of (by simp only [b2i]; split <;> omega), rfl⟩
    · refine ax_iconst f138_11 ?_
      refine ax_goto f138_12 rfl ?_
      refine ax_ireturn f138_16 rfl rfl ?_
      exact ⟨rI_of (by simp only [b2i]; split <;> omega), rfl⟩
theorem c_139 {h : am_H} {z : Int} (hz : inI z) : am_X 0 139 0 (am_ent 139 [.int (iI z)]) [] h (fun r h' => rI r (b2i (0 ≤ z ∧ z < 3)) ∧ h' = h) := by
  show am_X 0 139 0 [.int (iI z)] [] h _
  obtain ⟨hz1, hz2⟩ := hz
  refine ax_iload_n f139_0 rfl ?_
  refine ax_if_lt f139_1 rfl ⟨by omega, by omega⟩ (fun q1 => ?_) (fun q1 => ?_)
  · refine ax_iconst f139_13 ?_
    refine ax_ireturn f139_14 rfl rfl ?_
    exact ⟨rI_of (by simp only [b2i]; split <;> omega), rfl⟩
  · refine ax_iload_n f139_4 rfl ?_
    refine ax_iconst f139_5 ?_
    refine ax_icmp_ge f139_6 rfl ⟨by omega, by omega⟩ ⟨by omega, by omega⟩ (fun q6 => ?_) (fun q6 => ?_)
    · refine ax_iconst f139_13 ?_
      refine ax_ireturn f139_14 rfl rfl ?_
      exact ⟨rI_of (by simp only [b2i]; split <;> omega), rfl⟩
    · refine ax_iconst f139_9 ?_
      refine ax_goto f139_10 rfl ?_
      refine ax_ireturn f139_14 rfl rfl ?_
      exact ⟨rI_of (by simp only [b2i]; split <;> omega), rfl⟩