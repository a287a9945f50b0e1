theorem am_all_app {α : Type} {f : α → Bool} {a b : List α} (ha : a.all f = true) (hb : b.all f = true) : (a ++ b).all f = true := by rw [List.all_append, ha, hb]; rfl
def am_allok : List (List (Nat × am_I)) → Nat → Prop
  | [], _ => True
  | c :: r, i => (c.all (am_lk i)) = true ∧ am_allok r (i + 1)
theorem am_kk0 : (am_c0.all (am_lk 0)) = true := am_all_app am_k0_0 (am_all_app am_k0_1 (am_all_app am_k0_2 (am_k0_3)))
theorem am_kk1 : (am_c1.all (am_lk 1)) = true := am_k1_0
theorem am_kk2 : (am_c2.all (am_lk 2)) = true := am_k2_0
theorem am_kk3 : (am_c3.all (am_lk 3)) = true := am_k3_0
theorem am_kk4 : (am_c4.all (am_lk 4)) = true := am_k4_0
theorem am_kk5 : (am_c5.all (am_lk 5)) = true := am_k5_0
theorem am_kk6 : (am_c6.all (am_lk 6)) = true := am_k6_0
theorem am_kk7 : (am_c7.all (am_lk 7)) = true := am_k7_0
theorem am_kk8 : (am_c8.all (am_lk 8)) = true := am_all_app am_k8_0 (am_k8_1)
theorem am_kk9 : (am_c9.all (am_lk 9)) = true := am_all_app am_k9_0 (am_all_app am_k9_1 (am_k9_2))
theorem am_kk10 : (am_c10.all (am_lk 10)) = true := am_all_app am_k10_0 (am_k10_1)
theorem am_kk11 : (am_c11.all (am_lk 11)) = true := am_all_app am_k11_0 (am_k11_1)
theorem am_kk12 : (am_c12.all (am_lk 12)) = true := am_all_app am_k12_0 (am_all_app am_k12_1 (am_k12_2))
theorem am_kk13 : (am_c13.all (am_lk 13)) = true := am_all_app am_k13_0 (am_k13_1)
theorem am_kk14 : (am_c14.all (am_lk 14)) = true := am_all_app am_k14_0 (am_all_app am_k14_1 (am_k14_2))
theorem am_kk15 : (am_c15.all (am_lk 15)) = true := am_all_app am_k15_0 (am_all_app am_k15_1 (am_k15_2))
theorem am_kk16 : (am_c16.all (am_lk 16)) = true := am_all_app am_k16_0 (am_all_app am_k16_1 (am_k16_2))
theorem am_kk17 : (am_c17.all (am_lk 17)) = true := am_all_app am_k17_0 (am_k17_1)
theorem am_kk18 : (am_c18.all (am_lk 18)) = true := am_k18_0
theorem am_kk19 : (am_c19.all (am_lk 19)) = true := am_k19_0
theorem am_kk20 : (am_c20.all (am_lk 20)) = true := am_k20_0
theorem am_kk21 : (am_c21.all (am_lk 21)) = true := am_k21_0
theorem am_kk22 : (am_c22.all (am_lk 22)) = true := am_k22_0
theorem am_kk23 : (am_c23.all (am_lk 23)) = true := am_k23_0
theorem am_kk24 : (am_c24.all (am_lk 24)) = true := am_k24_0
theorem am_kk25 : (am_c25.all (am_lk 25)) = true := am_k25_0
theorem am_kk26 : (am_c26.all (am_lk 26)) = true := am_k26_0
theorem am_kk27 : (am_c27.all (am_lk 27)) = true := am_k27_0
theorem am_kk35 : (am_c35.all (am_lk 35)) = true := am_k35_0
theorem am_kk36 : (am_c36.all (am_lk 36)) = true := am_k36_0
theorem am_kk38 : (am_c38.all (am_lk 38)) = true := am_k38_0
theorem am_kk40 : (am_c40.all (am_lk 40)) = true := am_k40_0
theorem am_kk41 : (am_c41.all (am_lk 41)) = true := am_k41_0
theorem am_kk42 : (am_c42.all (am_lk 42)) = true := am_all_app am_k42_0 (am_k42_1)
theorem am_kk43 : (am_c43.all (am_lk 43)) = true := am_k43_0
theorem am_kk44 : (am_c44.all (am_lk 44)) = true := am_k44_0
theorem am_kk45 : (am_c45.all (am_lk 45)) = true := am_k45_0
theorem am_kk46 : (am_c46.all (am_lk 46)) = true := am_k46_0
theorem am_kk47 : (am_c47.all (am_lk 47)) = true := am_k47_0
theorem am_kk48 : (am_c48.all (am_lk 48)) = true := am_k48_0
theorem am_kk49 : (am_c49.all (am_lk 49)) = true := am_k49_0
theorem am_kk50 : (am_c50.all (am_lk 50)) = true := am_k50_0
theorem am_kk51 : (am_c51.all (am_lk 51)) = true := am_k51_0
theorem am_kk52 : (am_c52.all (am_lk 52)) = true := am_k52_0
theorem am_kk53 : (am_c53.all (am_lk 53)) = true := am_k53_0
theorem am_kk54 : (am_c54.all (am_lk 54)) = true := am_k54_0
theorem am_kk55 : (am_c55.all (am_lk 55)) = true := am_k55_0
theorem am_kk56 : (am_c56.all (am_lk 56)) = true := am_k56_0
theorem am_kk57 : (am_c57.all (am_lk 57)) = true := am_k57_0
theorem am_kk58 : (am_c58.all (am_lk 58)) = true := am_k58_0
theorem am_kk59 : (am_c59.all (am_lk 59)) = true := am_k59_0
theorem am_kk60 : (am_c60.all (am_lk 60)) = true := am_k60_0
theorem am_kk61 : (am_c61.all (am_lk 61)) = true := am_k61_0
theorem am_kk62 : (am_c62.all (am_lk 62)) = true := am_k62_0
theorem am_kk63 : (am_c63.all (am_lk 63)) = true := am_k63_0
theorem am_kk64 : (am_c64.all (am_lk 64)) = true := am_k64_0
theorem am_kk65 : (am_c65.all (am_lk 65)) = true := am_k65_0
theorem am_kk66 : (am_c66.all (am_lk 66)) = true := am_k66_0
theorem am_kk67 : (am_c67.all (am_lk 67)) = true := am_k67_0
theorem am_kk68 : (am_c68.all (am_lk 68)) = true := am_k68_0
theorem am_kk69 : (am_c69.all (am_lk 69)) = true := am_k69_0
theorem am_kk70 : (am_c70.all (am_lk 70)) = true := am_k70_0
theorem am_kk71 : (am_c71.all (am_lk 71)) = true := am_k71_0
theorem am_kk72 : (am_c72.all (am_lk 72)) = true := am_k72_0
theorem am_kk73 : (am_c73.all (am_lk 73)) = true := am_k73_0
theorem am_kk74 : (am_c74.all (am_lk 74)) = true := am_k74_0
theorem am_kk75 : (am_c75.all (am_lk 75)) = true := am_k75_0
theorem am_kk76 : (am_c76.all (am_lk 76)) = true := am_k76_0
theorem am_kk80 : (am_c80.all (am_lk 80)) = true := am_k80_0
theorem am_kk81 : (am_c81.all (am_lk 81)) = true := am_all_app am_k81_0 (am_k81_1)
theorem am_kk82 : (am_c82.all (am_lk 82)) = true := am_all_app am_k82_0 (am_k82_1)
theorem am_kk83 : (am_c83.all (am_lk 83)) = true := am_k83_0
theorem am_kk86 : (am_c86.all (am_lk 86)) = true := am_k86_0
theorem am_kk91 : (am_c91.all (am_lk 91)) = true := am_k91_0
theorem am_kk92 : (am_c92.all (am_lk 92)) = true := am_all_app am_k92_0 (am_k92_1)
theorem am_kk93 : (am_c93.all (am_lk 93)) = true := am_k93_0
theorem am_kk94 : (am_c94.all (am_lk 94)) = true := am_k94_0
theorem am_kk95 : (am_c95.all (am_lk 95)) = true := am_k95_0
theorem am_kk106 : (am_c106.all (am_lk 106)) = true := am_k106_0
theorem am_kk111 : (am_c111.all (am_lk 111)) = true := am_k111_0
theorem am_kk112 : (am_c112.all (am_lk 112)) = true := am_k112_0
theorem am_kk113 : (am_c113.all (am_lk 113)) = true := am_k113_0
theorem am_kk114 : (am_c114.all (am_lk 114)) = true := am_k114_0
theorem am_kk115 : (am_c115.all (am_lk 115)) = true := am_k115_0
theorem am_kk116 : (am_c116.all (am_lk 116)) = true := am_k116_0
theorem am_kk117 : (am_c117.all (am_lk 117)) = true := am_k117_0
theorem am_kk118 : (am_c118.all (am_lk 118)) = true := am_k118_0
theorem am_kk119 : (am_c119.all (am_lk 119)) = true := am_k119_0
theorem am_kk120 : (am_c120.all (am_lk 120)) = true := am_k120_0
theorem am_kk121 : (am_c121.all (am_lk 121)) = true := am_k121_0
theorem am_kk123 : (am_c123.all (am_lk 123)) = true := am_k123_0
theorem am_kk124 : (am_c124.all (am_lk 124)) = true := am_k124_0
theorem am_kk125 : (am_c125.all (am_lk 125)) = true := am_k125_0
theorem am_kk126 : (am_c126.all (am_lk 126)) = true := am_k126_0
theorem am_kk127 : (am_c127.all (am_lk 127)) = true := am_k127_0
theorem am_kk128 : (am_c128.all (am_lk 128)) = true := am_k128_0
theorem am_kk129 : (am_c129.all (am_lk 129)) = true := am_k129_0
theorem am_kk134 : (am_c134.all (am_lk 134)) = true := am_k134_0
theorem am_kk135 : (am_c135.all (am_lk 135)) = true := am_k135_0
theorem am_kk136 : (am_c136.all (am_lk 136)) = true := am_k136_0
theorem am_kk137 : (am_c137.all (am_lk 137)) = true := am_k137_0
theorem am_kk138 : (am_c138.all (am_lk 138)) = true := am_k138_0
theorem am_kk139 : (am_c139.all (am_lk 139)) = true := am_k139_0
theorem am_kk141 : (am_c141.all (am_lk 141)) = true := am_k141_0
theorem am_kk142 : (am_c142.all (am_lk 142)) = true := am_k142_0
theorem am_kk143 : (am_c143.all (am_lk 143)) = true := am_all_app am_k143_0 (am_k143_1)
theorem am_kk144 : (am_c144.all (am_lk 144)) = true := am_k144_0
theorem am_kk145 : (am_c145.all (am_lk 145)) = true := am_k145_0
theorem am_kk146 : (am_c146.all (am_lk 146)) = true := am_all_app am_k146_0 (am_all_app am_k146_1 (am_k146_2))
theorem am_kk231 : (am_c231.all (am_lk 231)) = true := am_k231_0
theorem am_ok_all : am_allok am_prog 0 := ⟨am_kk0, am_kk1, am_kk2, am_kk3, am_kk4, am_kk5, am_kk6, am_kk7, am_kk8, am_kk9, am_kk10, am_kk11, am_kk12, am_kk13, am_kk14, am_kk15, am_kk16, am_kk17, am_kk18, am_kk19, am_kk20, am_kk21, am_kk22, am_kk23, am_kk24, am_kk25, am_kk26, am_kk27, rfl, rfl, rfl, rfl, rfl, rfl, rfl, am_kk35, am_kk36, rfl, am_kk38, rfl, am_kk40, am_kk41, am_kk42, am_kk43, am_kk44, am_kk45, am_kk46, am_kk47, am_kk48, am_kk49, am_kk50, am_kk51, am_kk52, am_kk53, am_kk54, am_kk55, am_kk56, am_kk57, am_kk58, am_kk59, am_kk60, am_kk61, am_kk62, am_kk63, am_kk64, am_kk65, am_kk66, am_kk67, am_kk68, am_kk69, am_kk70, am_kk71, am_kk72, am_kk73, am_kk74, am_kk75, am_kk76, rfl, rfl, rfl, am_kk80, am_kk81, am_kk82, am_kk83, rfl, rfl, am_kk86, rfl, rfl, rfl, rfl, am_kk91, am_kk92, am_kk93, am_kk94, am_kk95, rfl, rfl, rfl, rfl, rfl, rfl, rfl, rfl, rfl, rfl, am_kk106, rfl, rfl, rfl, rfl, am_kk111, am_kk112, am_kk113, am_kk114, am_kk115, am_kk116, am_kk117, am_kk118, am_kk119, am_kk120, am_kk121, rfl, am_kk123, am_kk124, am_kk125, am_kk126, am_kk127, am_kk128, am_kk129, rfl, rfl, rfl, rfl, am_kk134, am_kk135, am_kk136, am_kk137, am_kk138, am_kk139, rfl, am_kk141, am_kk142, am_kk143, am_kk144, am_kk145, am_kk146, rfl, rfl, rfl, rfl, rfl, rfl, rfl, rfl, rfl, rfl, rfl, rfl, rfl, rfl, rfl, rfl, rfl, rfl, rfl, rfl, rfl, rfl, rfl, rfl, rfl, rfl, rfl, rfl, rfl, rfl, rfl, rfl, rfl, rfl, rfl, rfl, rfl, rfl, rfl, rfl, rfl, rfl, rfl, rfl, rfl, rfl, rfl, rfl, rfl, rfl, rfl, rfl, rfl, rfl, rfl, rfl, rfl, rfl, rfl, rfl, rfl, rfl, rfl, rfl, rfl, rfl, rfl, rfl, rfl, rfl, rfl, rfl, rfl, rfl, rfl, rfl, rfl, rfl, rfl, rfl, rfl, rfl, rfl, rfl, am_kk231, trivial⟩
theorem am_allok_at : ∀ (l : List (List (Nat × am_I))) (i k : Nat) (c : List (Nat × am_I)), am_allok l i → l[k]? = some c → (c.all (am_lk (i + k))) = true
  | [], _, _, _, _, hk => by simp at hk
  | c0 :: r, i, 0, c, h, hk => by cases hk; exact h.1
  | c0 :: r, i, k + 1, c, h, hk => by
    have := am_allok_at r (i + 1) k c h.2 hk
    rwa [show i + 1 + k = i + (k + 1) from by omega] at this
theorem am_lookup_mem {α : Type} : ∀ (l : List (Nat × α)) (k : Nat) (v : α), l.lookup k = some v → (k, v) ∈ l
  | [], k, v, h => by simp at h
  | (k0, v0) :: r, k, v, h => by
    rw [List.lookup_cons] at h
    split at h
    next hk => cases h; rw [beq_iff_eq] at hk; subst hk; exact List.mem_cons_self
    next => exact List.mem_cons_of_mem _ (am_lookup_mem r k v h)
/-- an instruction of the tables is the code's, and linked -/
theorem am_lk_of {m pc : Nat} {e : am_I} (h : am_tab m pc = some e) : am_lk m (pc, e) = true := by
  unfold am_tab at h
  cases hc : am_prog[m]? with
  | none => rw [hc] at h; simp at h
  | some c =>
    rw [hc] at h
    have h1 := am_allok_at am_prog 0 m c am_ok_all hc
    rw [Nat.zero_add] at h1
    exact List.all_eq_true.mp h1 _ (am_lookup_mem c pc e h)
