def am_dY : am_Y := (⟨"", "", ""⟩, ⟨#[]⟩, 0, none, [], 0, false, 0, 0)
noncomputable def am_y (m : Nat) : am_Y := (am_M[m]?).getD am_dY
noncomputable def am_nm (m : Nat) : MethodName := (am_y m).1
noncomputable def am_cn (m : Nat) : String := (am_y m).1.cls
noncomputable def am_by (m : Nat) : ByteArray := (am_y m).2.1
noncomputable def am_mx (m : Nat) : Nat := (am_y m).2.2.1
noncomputable def am_rt (m : Nat) : Option FieldType := (am_y m).2.2.2.1
noncomputable def am_hh (m : Nat) : List (Nat × Nat × Nat × Nat) := (am_y m).2.2.2.2.1
noncomputable def am_np (m : Nat) : Nat := (am_y m).2.2.2.2.2.1
def am_q (a : Nat) : vw_C := (vwCl[a]?).getD ("", fun _ => ("", "", "", false), 0)
def am_wpl : List (Nat × Nat × Nat × Nat) := [(0, 1000, 0, 0), (2019, 1000, 2018, 0), (2023, 1000, 2022, 0), (2027, 1000, 2026, 0), (2185, 1000, 2184, 0), (2176, 1000, 2175, 0), (2179, 1000, 2178, 0), (3028, 1000, 3027, 0), (3025, 1000, 3024, 0), (3022, 1000, 3021, 0), (3031, 1000, 3030, 0), (3019, 1000, 3018, 0), (2030, 1000, 2029, 0), (2227, 1000, 2226, 0), (2182, 1000, 2181, 0), (3016, 1000, 3015, 0), (3086, 1000, 3085, 0), (3132, 1000, 3131, 0), (3158, 1000, 3157, 0), (3135, 1000, 3134, 0), (3210, 1000, 3209, 0), (3207, 1000, 3206, 0), (3235, 1000, 3234, 0), (1097, 1005, 1096, 0), (3052, 1005, 3050, 3051), (3077, 1005, 3075, 3076), (3073, 1005, 3071, 3072), (1032, 1002, 1031, 0), (0, 0, 0, 0), (0, 0, 0, 0), (0, 0, 0, 0), (0, 0, 0, 0), (0, 0, 0, 0), (0, 0, 0, 0), (0, 0, 0, 0), (4051, 1002, 4049, 4050), (1171, 1008, 1170, 0), (0, 0, 0, 0), (3172, 1008, 3170, 3171), (0, 0, 0, 0), (3176, 1008, 3175, 9), (1038, 1003, 1037, 0), (3180, 1003, 3178, 3179), (2109, 1003, 2107, 2108), (2117, 1003, 2115, 2116), (3056, 1003, 3054, 3055), (2203, 1003, 2201, 2202), (2223, 1003, 2221, 2222), (2152, 1003, 2150, 2151), (2193, 1003, 2191, 2192), (2199, 1003, 2197, 2198), (2121, 1003, 2119, 2120), (2157, 1003, 2155, 2156), (2167, 1003, 2165, 2166), (2172, 1003, 2170, 2171), (4035, 1003, 4033, 4034), (3044, 1003, 3042, 3043), (3222, 1003, 3220, 3221), (3204, 1003, 3202, 3203), (3188, 1003, 3186, 3187), (4017, 1003, 4015, 4016), (3228, 1003, 3226, 3227), (3232, 1003, 3230, 3231), (4029, 1003, 4027, 4028), (4058, 1003, 4056, 4057), (3147, 1003, 3145, 3146), (3151, 1003, 3150, 7), (3155, 1003, 3154, 8), (4003, 1003, 4001, 4002), (1137, 1006, 1136, 0), (3095, 1006, 3093, 3094), (3101, 1006, 3100, 3), (3112, 1006, 3110, 3111), (3116, 1006, 3115, 4), (3123, 1006, 3122, 0), (3120, 1006, 3119, 5), (3129, 1006, 3128, 6), (0, 0, 0, 0), (0, 0, 0, 0), (0, 0, 0, 0), (1091, 1004, 1090, 0), (3048, 1004, 3046, 3047), (3066, 1004, 3065, 0), (3069, 1004, 3068, 0), (0, 0, 0, 0), (0, 0, 0, 0), (1190, 1009, 1189, 0), (0, 0, 0, 0), (0, 0, 0, 0), (0, 0, 0, 0), (0, 0, 0, 0), (1160, 1007, 1159, 0), (2235, 1007, 2233, 2234), (3002, 1007, 3001, 1), (3006, 1007, 3005, 2), (1206, 1010, 1205, 0), (0, 0, 0, 0), (0, 0, 0, 0), (0, 0, 0, 0), (0, 0, 0, 0), (0, 0, 0, 0), (0, 0, 0, 0), (0, 0, 0, 0), (0, 0, 0, 0), (0, 0, 0, 0), (0, 0, 0, 0), (1024, 1001, 1023, 0), (0, 0, 0, 0), (0, 0, 0, 0), (0, 0, 0, 0), (0, 0, 0, 0), (2148, 1001, 2146, 2147), (2034, 1001, 2032, 2033), (2189, 1001, 2187, 2188), (3196, 1001, 3194, 3195), (3168, 1001, 3166, 3167), (3214, 1001, 3212, 3213), (3239, 1001, 3237, 3238), (4009, 1001, 4007, 4008), (4025, 1001, 4023, 4024), (4047, 1001, 4045, 4046), (4039, 1001, 4037, 4038), (0, 0, 0, 0), (3035, 1001, 3033, 3034), (3083, 1001, 3081, 3082), (3090, 1001, 3088, 3089), (3108, 1001, 3106, 3107), (3139, 1001, 3137, 3138), (2231, 1001, 2229, 2230), (3010, 1001, 3008, 3009), (0, 0, 0, 0), (0, 0, 0, 0), (0, 0, 0, 0), (0, 0, 0, 0), (2037, 1001, 2036, 0), (3217, 1001, 3216, 0), (3199, 1001, 3198, 0), (4012, 1001, 4011, 0), (3142, 1001, 3141, 0), (3038, 1001, 3037, 0), (0, 0, 0, 0), (2113, 1001, 2112, 0), (4021, 1000, 4020, 0), (4043, 1000, 4042, 0), (3192, 1000, 3191, 0), (3164, 1000, 3163, 0), (3161, 1000, 3160, 0), (0, 0, 0, 0), (0, 0, 0, 0), (0, 0, 0, 0), (0, 0, 0, 0), (0, 0, 0, 0), (0, 0, 0, 0), (0, 0, 0, 0), (0, 0, 0, 0), (0, 0, 0, 0), (0, 0, 0, 0), (0, 0, 0, 0), (0, 0, 0, 0), (0, 0, 0, 0), (0, 0, 0, 0), (0, 0, 0, 0), (0, 0, 0, 0), (0, 0, 0, 0), (0, 0, 0, 0), (0, 0, 0, 0), (0, 0, 0, 0), (0, 0, 0, 0), (0, 0, 0, 0), (0, 0, 0, 0), (0, 0, 0, 0), (0, 0, 0, 0), (0, 0, 0, 0), (0, 0, 0, 0), (0, 0, 0, 0), (0, 0, 0, 0), (0, 0, 0, 0), (0, 0, 0, 0), (0, 0, 0, 0), (0, 0, 0, 0), (0, 0, 0, 0), (0, 0, 0, 0), (0, 0, 0, 0), (0, 0, 0, 0), (0, 0, 0, 0), (0, 0, 0, 0), (0, 0, 0, 0), (0, 0, 0, 0), (0, 0, 0, 0), (0, 0, 0, 0), (0, 0, 0, 0), (0, 0, 0, 0), (0, 0, 0, 0), (0, 0, 0, 0), (0, 0, 0, 0), (0, 0, 0, 0), (0, 0, 0, 0), (0, 0, 0, 0), (0, 0, 0, 0), (0, 0, 0, 0), (0, 0, 0, 0), (0, 0, 0, 0), (0, 0, 0, 0), (0, 0, 0, 0), (0, 0, 0, 0), (0, 0, 0, 0), (0, 0, 0, 0), (0, 0, 0, 0), (0, 0, 0, 0), (0, 0, 0, 0), (0, 0, 0, 0), (0, 0, 0, 0), (0, 0, 0, 0), (0, 0, 0, 0), (0, 0, 0, 0), (0, 0, 0, 0), (0, 0, 0, 0), (0, 0, 0, 0), (0, 0, 0, 0), (0, 0, 0, 0), (0, 0, 0, 0), (0, 0, 0, 0), (0, 0, 0, 0), (0, 0, 0, 0), (0, 0, 0, 0), (0, 0, 0, 0), (0, 0, 0, 0), (0, 0, 0, 0), (0, 0, 0, 0), (0, 0, 0, 0), (0, 0, 0, 0), (2125, 1015, 2124, 0)]
/-- a word of the tables by its piece and its place there -/
noncomputable def am_wat (w : Nat) : Option Cond := match w / 1000 with
  | 0 => (k2_sels lw_privs)[w % 1000]?
  | 1 => tables_1_1[w % 1000]?
  | 2 => tables_1_2[w % 1000]?
  | 3 => tables_1_3[w % 1000]?
  | 4 => tables_1_4[w % 1000]?
  | _ => none
/-- a method's words by their places among lw_tbl: code, initialized; instance or static, selects -/
noncomputable def am_wp (m : Nat) : Nat × Nat × Nat × Nat := (am_wpl[m]?).getD (0, 0, 0, 0)
def am_fw (cn : String) (i a b : Nat) (v : Value) : Cond :=
  if v = .null then .fieldLink cn i ((am_q a).2.1 b).1 ((am_q a).2.1 b).2.1 ((am_q a).2.1 b).2.2.1 else .fieldLinkNest cn i ((am_q a).2.1 b).1 ((am_q a).2.1 b).2.1 ((am_q a).2.1 b).2.2.1 "FencedRows"
noncomputable def am_cw (y : Nat) : Cond := if am_hh y = [] then .code (am_nm y) (am_by y) (am_mx y) (am_rt y) else .codeWith (am_nm y) (am_by y) (am_mx y) (am_rt y) (am_hh y)
/-- what is the same of a method wherever it is called -/
noncomputable def am_mk (y : Nat) : Bool :=
  decide (am_wat (am_wp y).1 = some (am_cw y)) && decide (am_wat (am_wp y).2.1 = some (.initialized (am_cn y))) && plainName (am_cn y)
  && decide ((am_cn y) ≠ "java/lang/invoke/MethodHandle" ∧ (am_cn y) ≠ "java/lang/invoke/VarHandle" ∧ (parseMethodDescriptor (am_nm y).desc).map (fun d => d.parameters.length) = some (am_np y)) && decide (am_mx y ≤ 21)
noncomputable def am_mi (y : Nat) : Bool := decide (am_wat (am_wp y).2.2.1 = some (.instanceMethod (am_nm y)))
noncomputable def am_ms (y : Nat) : Bool := decide (am_wat (am_wp y).2.2.1 = some (.static (am_nm y)))
noncomputable def am_ml (y : Nat) : Bool := decide (am_wat (am_wp y).2.2.2 = some (.selects (am_cn y) (am_nm y) (am_nm y)))
def am_at (t : ArrayType) : Nat := match t with
  | .int => 0
  | .char => 1
  | .boolean => 2
  | .long => 3
  | _ => 9
noncomputable def am_lkw (m : Nat) (e : am_I) : Bool := match e.1 with
  | .getfield i => decide (am_wat e.2.2.2.2.1 = some (am_fw (am_cn m) i e.2.2.1 e.2.2.2.1 e.2.2.2.2.2)) && decide (e.2.2.1 < vwCl.length) && decide (e.2.2.2.1 < (am_q e.2.2.1).2.2)
  | .putfield i => decide (am_wat e.2.2.2.2.1 = some (am_fw (am_cn m) i e.2.2.1 e.2.2.2.1 e.2.2.2.2.2)) && decide (e.2.2.1 < vwCl.length) && decide (e.2.2.2.1 < (am_q e.2.2.1).2.2)
    && (decide (((am_q e.2.2.1).2.1 e.2.2.2.1).2.2.2 = false) || (decide ((am_nm m).name = "<init>") && decide (((am_q e.2.2.1).2.1 e.2.2.2.1).1 = am_cn m) && decide (((am_q e.2.2.1).2.1 e.2.2.2.1).2.2.2 = true) && decide (e.2.2.2.2.2 = .null)))
  | .ldc i => (match e.2.2.2.2.2 with
    | .int x => decide (am_wat e.2.2.2.2.1 = some (.constant (am_cn m) i x))
    | _ => false)
  | .ldc2_w i => (match e.2.2.2.2.2 with
    | .long x => decide (am_wat e.2.2.2.2.1 = some (.constantLong (am_cn m) i x))
    | _ => false)
  | .new i => decide (am_wat e.2.2.2.2.1 = some (.classLink (am_cn m) i (am_q e.2.2.1).1)) && decide (e.2.2.1 < vwCl.length) && decide (e.2.2.2.1 = (am_q e.2.2.1).2.2)
    && decide (am_wat ((am_kw[e.2.2.1]?).getD (0, 0)).1 = some (.instantiable (am_q e.2.2.1).1 e.2.2.2.1)) && decide (am_wat ((am_kw[e.2.2.1]?).getD (0, 0)).2 = some (.initialized (am_q e.2.2.1).1))
  | .newarray t => decide (am_at t = e.2.2.1) && decide (e.2.2.1 < 4) && decide (am_wat e.2.2.2.2.1 = some (.arrayClass (newarray.typeOf t)))
  | .anewarray i => decide (e.2.2.1 = 4) && decide (am_wat e.2.2.2.2.1 = some (.classLink (am_cn m) i "FencedRows$Meadow"))
  | .invokevirtual i => decide (am_wat e.2.2.2.2.1 = some (.methodLink (am_cn m) i (am_nm e.2.2.1))) && am_mk e.2.2.1 && am_mi e.2.2.1 && am_ml e.2.2.1 && decide (am_hh e.2.2.1 = []) && decide (e.2.2.2.1 = am_np e.2.2.1 + 1) && decide (e.2.2.2.2.2 = .int 0 ∨ e.2.2.2.2.2 = .int 8)
  | .invokestatic i => if e.2.2.2.2.2 = .int 7 then decide (am_wat e.2.2.2.2.1 = some (.methodLink (am_cn m) i arraycopyName)) else
    if e.2.2.2.2.2 = .int 10 then decide (am_wat e.2.2.2.2.1 = some (.methodLink (am_cn m) i Lib.Math.max.name)) else
    if e.2.2.2.2.2 = .int 11 then decide (am_wat e.2.2.2.2.1 = some (.methodLink (am_cn m) i Lib.Math.min.name)) else
    if e.2.2.2.2.2 = .int 12 then decide (am_wat e.2.2.2.2.1 = some (.methodLink (am_cn m) i Lib.Math.abs.name)) else
    am_mk e.2.2.1 && am_ms e.2.2.1 && decide (e.2.2.2.1 = am_np e.2.2.1) && (if e.2.2.2.2.2 = .int 3 then decide (am_wat e.2.2.2.2.1 = some (.methodLinkNest (am_cn m) i (am_nm e.2.2.1) "FencedRows")) && decide (am_hh e.2.2.1 = [])
      else decide (am_wat e.2.2.2.2.1 = some (.methodLink (am_cn m) i (am_nm e.2.2.1))) && (if e.2.2.2.2.2 = .int 9 then decide (am_hh e.2.2.1 ≠ []) else decide (e.2.2.2.2.2 = .int 2) && decide (am_hh e.2.2.1 = [])))
  | .invokespecial i => if e.2.2.2.2.2 = .int 6 then decide (am_wat e.2.2.2.2.1 = some (.methodLink (am_cn m) i objectInit)) else
    am_mk e.2.2.1 && am_mi e.2.2.1 && decide ((am_nm e.2.2.1).name = "<init>") && decide (am_hh e.2.2.1 = []) && decide (e.2.2.2.1 = am_np e.2.2.1 + 1) && decide (am_rt e.2.2.1 = none) && (if e.2.2.2.2.2 = .int 5 then decide (am_wat e.2.2.2.2.1 = some (.methodLinkNest (am_cn m) i (am_nm e.2.2.1) "FencedRows"))
      else decide (am_wat e.2.2.2.2.1 = some (.methodLink (am_cn m) i (am_nm e.2.2.1))) && decide (e.2.2.2.2.2 = .int 4))
  | _ => true
def am_ln : Instr → Nat
  | .bipush _ | .ldc _ | .iload _ | .lload _ | .aload _ | .istore _ | .lstore _ | .astore _ | .newarray _ => 2
  | .sipush _ | .ldc2_w _ | .iinc _ _ | .goto _ | .ifCond _ _ | .if_icmp _ _ | .ifnull _ | .getfield _ | .putfield _ | .new _ | .anewarray _ | .invokespecial _ | .invokestatic _ | .invokevirtual _ => 3
  | .tableswitch .. | .lookupswitch .. => 0
  | _ => 1
noncomputable def am_lk (m : Nat) (q : Nat × am_I) : Bool := match q.2.1 with
  | .athrow => true
  | _ => decide (decode (am_by m) q.1 = .ok (q.2.1, q.2.2.1)) && (decide (am_ln q.2.1 = 0) || decide (am_ln q.2.1 = q.2.2.1)) && am_lkw m q.2
theorem am_k0_0 : (am_c0_0.all (am_lk 0)) = true := by decide +kernel
theorem am_k0_1 : (am_c0_1.all (am_lk 0)) = true := by decide +kernel
theorem am_k0_2 : (am_c0_2.all (am_lk 0)) = true := by decide +kernel
theorem am_k0_3 : (am_c0_3.all (am_lk 0)) = true := by decide +kernel
theorem am_k1_0 : (am_c1_0.all (am_lk 1)) = true := by decide +kernel
theorem am_k2_0 : (am_c2_0.all (am_lk 2)) = true := by decide +kernel
theorem am_k3_0 : (am_c3_0.all (am_lk 3)) = true := by decide +kernel
theorem am_k4_0 : (am_c4_0.all (am_lk 4)) = true := by decide +kernel
theorem am_k5_0 : (am_c5_0.all (am_lk 5)) = true := by decide +kernel
theorem am_k6_0 : (am_c6_0.all (am_lk 6)) = true := by decide +kernel
theorem am_k7_0 : (am_c7_0.all (am_lk 7)) = true := by decide +kernel
theorem am_k8_0 : (am_c8_0.all (am_lk 8)) = true := by decide +kernel
theorem am_k8_1 : (am_c8_1.all (am_lk 8)) = true := by decide +kernel
theorem am_k9_0 : (am_c9_0.all (am_lk 9)) = true := by decide +kernel
theorem am_k9_1 : (am_c9_1.all (am_lk 9)) = true := by decide +kernel
theorem am_k9_2 : (am_c9_2.all (am_lk 9)) = true := by decide +kernel
theorem am_k10_0 : (am_c10_0.all (am_lk 10)) = true := by decide +kernel
theorem am_k10_1 : (am_c10_1.all (am_lk 10)) = true := by decide +kernel
theorem am_k11_0 : (am_c11_0.all (am_lk 11)) = true := by decide +kernel
theorem am_k11_1 : (am_c11_1.all (am_lk 11)) = true := by decide +kernel
theorem am_k12_0 : (am_c12_0.all (am_lk 12)) = true := by decide +kernel
theorem am_k12_1 : (am_c12_1.all (am_lk 12)) = true := by decide +kernel
theorem am_k12_2 : (am_c12_2.all (am_lk 12)) = true := by decide +kernel
theorem am_k13_0 : (am_c13_0.all (am_lk 13)) = true := by decide +kernel
theorem am_k13_1 : (am_c13_1.all (am_lk 13)) = true := by decide +kernel
theorem am_k14_0 : (am_c14_0.all (am_lk 14)) = true := by decide +kernel
theorem am_k14_1 : (am_c14_1.all (am_lk 14)) = true := by decide +kernel
theorem am_k14_2 : (am_c14_2.all (am_lk 14)) = true := by decide +kernel
theorem am_k15_0 : (am_c15_0.all (am_lk 15)) = true := by decide +kernel
theorem am_k15_1 : (am_c15_1.all (am_lk 15)) = true := by decide +kernel
theorem am_k15_2 : (am_c15_2.all (am_lk 15)) = true := by decide +kernel
theorem am_k16_0 : (am_c16_0.all (am_lk 16)) = true := by decide +kernel
theorem am_k16_1 : (am_c16_1.all (am_lk 16)) = true := by decide +kernel
theorem am_k16_2 : (am_c16_2.all (am_lk 16)) = true := by decide +kernel
theorem am_k17_0 : (am_c17_0.all (am_lk 17)) = true := by decide +kernel
theorem am_k17_1 : (am_c17_1.all (am_lk 17)) = true := by decide +kernel
theorem am_k18_0 : (am_c18_0.all (am_lk 18)) = true := by decide +kernel
theorem am_k19_0 : (am_c19_0.all (am_lk 19)) = true := by decide +kernel
theorem am_k20_0 : (am_c20_0.all (am_lk 20)) = true := by decide +kernel
theorem am_k21_0 : (am_c21_0.all (am_lk 21)) = true := by decide +kernel
theorem am_k22_0 : (am_c22_0.all (am_lk 22)) = true := by decide +kernel
theorem am_k23_0 : (am_c23_0.all (am_lk 23)) = true := by decide +kernel
theorem am_k24_0 : (am_c24_0.all (am_lk 24)) = true := by decide +kernel
theorem am_k25_0 : (am_c25_0.all (am_lk 25)) = true := by decide +kernel
theorem am_k26_0 : (am_c26_0.all (am_lk 26)) = true := by decide +kernel
theorem am_k27_0 : (am_c27_0.all (am_lk 27)) = true := by decide +kernel
theorem am_k35_0 : (am_c35_0.all (am_lk 35)) = true := by decide +kernel
theorem am_k36_0 : (am_c36_0.all (am_lk 36)) = true := by decide +kernel
theorem am_k38_0 : (am_c38_0.all (am_lk 38)) = true := by decide +kernel
theorem am_k40_0 : (am_c40_0.all (am_lk 40)) = true := by decide +kernel
theorem am_k41_0 : (am_c41_0.all (am_lk 41)) = true := by decide +kernel
theorem am_k42_0 : (am_c42_0.all (am_lk 42)) = true := by decide +kernel
theorem am_k42_1 : (am_c42_1.all (am_lk 42)) = true := by decide +kernel
theorem am_k43_0 : (am_c43_0.all (am_lk 43)) = true := by decide +kernel
theorem am_k44_0 : (am_c44_0.all (am_lk 44)) = true := by decide +kernel
theorem am_k45_0 : (am_c45_0.all (am_lk 45)) = true := by decide +kernel
theorem am_k46_0 : (am_c46_0.all (am_lk 46)) = true := by decide +kernel
theorem am_k47_0 : (am_c47_0.all (am_lk 47)) = true := by decide +kernel
theorem am_k48_0 : (am_c48_0.all (am_lk 48)) = true := by decide +kernel
theorem am_k49_0 : (am_c49_0.all (am_lk 49)) = true := by decide +kernel
theorem am_k50_0 : (am_c50_0.all (am_lk 50)) = true := by decide +kernel
theorem am_k51_0 : (am_c51_0.all (am_lk 51)) = true := by decide +kernel
theorem am_k52_0 : (am_c52_0.all (am_lk 52)) = true := by decide +kernel
theorem am_k53_0 : (am_c53_0.all (am_lk 53)) = true := by decide +kernel
theorem am_k54_0 : (am_c54_0.all (am_lk 54)) = true := by decide +kernel
theorem am_k55_0 : (am_c55_0.all (am_lk 55)) = true := by decide +kernel
theorem am_k56_0 : (am_c56_0.all (am_lk 56)) = true := by decide +kernel
theorem am_k57_0 : (am_c57_0.all (am_lk 57)) = true := by decide +kernel
theorem am_k58_0 : (am_c58_0.all (am_lk 58)) = true := by decide +kernel
theorem am_k59_0 : (am_c59_0.all (am_lk 59)) = true := by decide +kernel
theorem am_k60_0 : (am_c60_0.all (am_lk 60)) = true := by decide +kernel
theorem am_k61_0 : (am_c61_0.all (am_lk 61)) = true := by decide +kernel
theorem am_k62_0 : (am_c62_0.all (am_lk 62)) = true := by decide +kernel
theorem am_k63_0 : (am_c63_0.all (am_lk 63)) = true := by decide +kernel
theorem am_k64_0 : (am_c64_0.all (am_lk 64)) = true := by decide +kernel
theorem am_k65_0 : (am_c65_0.all (am_lk 65)) = true := by decide +kernel
theorem am_k66_0 : (am_c66_0.all (am_lk 66)) = true := by decide +kernel
theorem am_k67_0 : (am_c67_0.all (am_lk 67)) = true := by decide +kernel
theorem am_k68_0 : (am_c68_0.all (am_lk 68)) = true := by decide +kernel
theorem am_k69_0 : (am_c69_0.all (am_lk 69)) = true := by decide +kernel
theorem am_k70_0 : (am_c70_0.all (am_lk 70)) = true := by decide +kernel
theorem am_k71_0 : (am_c71_0.all (am_lk 71)) = true := by decide +kernel
theorem am_k72_0 : (am_c72_0.all (am_lk 72)) = true := by decide +kernel
theorem am_k73_0 : (am_c73_0.all (am_lk 73)) = true := by decide +kernel
theorem am_k74_0 : (am_c74_0.all (am_lk 74)) = true := by decide +kernel
theorem am_k75_0 : (am_c75_0.all (am_lk 75)) = true := by decide +kernel
theorem am_k76_0 : (am_c76_0.all (am_lk 76)) = true := by decide +kernel
theorem am_k80_0 : (am_c80_0.all (am_lk 80)) = true := by decide +kernel
theorem am_k81_0 : (am_c81_0.all (am_lk 81)) = true := by decide +kernel
theorem am_k81_1 : (am_c81_1.all (am_lk 81)) = true := by decide +kernel
theorem am_k82_0 : (am_c82_0.all (am_lk 82)) = true := by decide +kernel
theorem am_k82_1 : (am_c82_1.all (am_lk 82)) = true := by decide +kernel
theorem am_k83_0 : (am_c83_0.all (am_lk 83)) = true := by decide +kernel
theorem am_k86_0 : (am_c86_0.all (am_lk 86)) = true := by decide +kernel
theorem am_k91_0 : (am_c91_0.all (am_lk 91)) = true := by decide +kernel
theorem am_k92_0 : (am_c92_0.all (am_lk 92)) = true := by decide +kernel
theorem am_k92_1 : (am_c92_1.all (am_lk 92)) = true := by decide +kernel
theorem am_k93_0 : (am_c93_0.all (am_lk 93)) = true := by decide +kernel
theorem am_k94_0 : (am_c94_0.all (am_lk 94)) = true := by decide +kernel
theorem am_k95_0 : (am_c95_0.all (am_lk 95)) = true := by decide +kernel
theorem am_k106_0 : (am_c106_0.all (am_lk 106)) = true := by decide +kernel
theorem am_k111_0 : (am_c111_0.all (am_lk 111)) = true := by decide +kernel
theorem am_k112_0 : (am_c112_0.all (am_lk 112)) = true := by decide +kernel
theorem am_k113_0 : (am_c113_0.all (am_lk 113)) = true := by decide +kernel
theorem am_k114_0 : (am_c114_0.all (am_lk 114)) = true := by decide +kernel
theorem am_k115_0 : (am_c115_0.all (am_lk 115)) = true := by decide +kernel
theorem am_k116_0 : (am_c116_0.all (am_lk 116)) = true := by decide +kernel
theorem am_k117_0 : (am_c117_0.all (am_lk 117)) = true := by decide +kernel
theorem am_k118_0 : (am_c118_0.all (am_lk 118)) = true := by decide +kernel
theorem am_k119_0 : (am_c119_0.all (am_lk 119)) = true := by decide +kernel
theorem am_k120_0 : (am_c120_0.all (am_lk 120)) = true := by decide +kernel
theorem am_k121_0 : (am_c121_0.all (am_lk 121)) = true := by decide +kernel
theorem am_k123_0 : (am_c123_0.all (am_lk 123)) = true := by decide +kernel
theorem am_k124_0 : (am_c124_0.all (am_lk 124)) = true := by decide +kernel
theorem am_k125_0 : (am_c125_0.all (am_lk 125)) = true := by decide +kernel
theorem am_k126_0 : (am_c126_0.all (am_lk 126)) = true := by decide +kernel
theorem am_k127_0 : (am_c127_0.all (am_lk 127)) = true := by decide +kernel
theorem am_k128_0 : (am_c128_0.all (am_lk 128)) = true := by decide +kernel
theorem am_k129_0 : (am_c129_0.all (am_lk 129)) = true := by decide +kernel
theorem am_k134_0 : (am_c134_0.all (am_lk 134)) = true := by decide +kernel
theorem am_k135_0 : (am_c135_0.all (am_lk 135)) = true := by decide +kernel
theorem am_k136_0 : (am_c136_0.all (am_lk 136)) = true := by decide +kernel
theorem am_k137_0 : (am_c137_0.all (am_lk 137)) = true := by decide +kernel
theorem am_k138_0 : (am_c138_0.all (am_lk 138)) = true := by decide +kernel
theorem am_k139_0 : (am_c139_0.all (am_lk 139)) = true := by decide +kernel
theorem am_k141_0 : (am_c141_0.all (am_lk 141)) = true := by decide +kernel
theorem am_k142_0 : (am_c142_0.all (am_lk 142)) = true := by decide +kernel
theorem am_k143_0 : (am_c143_0.all (am_lk 143)) = true := by decide +kernel
theorem am_k143_1 : (am_c143_1.all (am_lk 143)) = true := by decide +kernel
theorem am_k144_0 : (am_c144_0.all (am_lk 144)) = true := by decide +kernel
theorem am_k145_0 : (am_c145_0.all (am_lk 145)) = true := by decide +kernel
theorem am_k146_0 : (am_c146_0.all (am_lk 146)) = true := by decide +kernel
theorem am_k146_1 : (am_c146_1.all (am_lk 146)) = true := by decide +kernel
theorem am_k146_2 : (am_c146_2.all (am_lk 146)) = true := by decide +kernel
theorem am_k231_0 : (am_c231_0.all (am_lk 231)) = true := by decide +kernel
