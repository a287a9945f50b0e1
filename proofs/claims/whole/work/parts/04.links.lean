def am_dY : am_Y := (⟨"", "", ""⟩, ⟨#[]⟩, 0, none, [], 0, false, 0, 0)
noncomputable def am_y (m : Nat) : am_Y := (am_M[m]?).getD am_dY
noncomputable def am_nm (m : Nat) : MethodName := (am_y m).1
noncomputable def am_cn (m : Nat) : String := (am_y m).1.cls
noncomputable def am_by (m : Nat) : ByteArray := (am_y m).2.1
noncomputable def am_mx (m : Nat) : Nat := (am_y m).2.2.1
noncomputable def am_rt (m : Nat) : Option FieldType := (am_y m).2.2.2.1
noncomputable def am_hh (m : Nat) : List (Nat × Nat × Nat × Nat) := (am_y m).2.2.2.2.1
noncomputable def am_np (m : Nat) : Nat := (am_y m).2.2.2.2.2.1
def am_q (a : Nat) : vw_C := (vwCl[a]?).getD ("", fun _ => ("", "", "", false), 0)
def am_wpl : List (Nat × Nat × Nat × Nat) := [(0, 1000, 0, 0), (2201, 1000, 2200, 0), (3062, 1000, 3061, 0), (3183, 1000, 3182, 0), (3197, 1000, 3196, 0), (3231, 1000, 3230, 0), (4006, 1000, 4005, 0), (4016, 1000, 4015, 0), (4024, 1000, 4023, 0), (4036, 1000, 4035, 0), (4047, 1000, 4046, 0), (4057, 1000, 4056, 0), (4067, 1000, 4066, 0), (4075, 1000, 4074, 0), (4087, 1000, 4086, 0), (4096, 1000, 4095, 0), (4117, 1000, 4116, 0), (4145, 1000, 4144, 0), (4153, 1000, 4152, 0), (4175, 1000, 4174, 0), (4203, 1000, 4202, 0), (4226, 1000, 4225, 0), (5003, 1000, 5002, 0), (1104, 1005, 1103, 0), (2146, 1005, 2144, 2145), (2186, 1005, 2184, 2185), (2182, 1005, 2180, 2181), (1035, 1002, 1034, 0), (3082, 1002, 3080, 3081), (3096, 1002, 3094, 3095), (3086, 1002, 3084, 3085), (3107, 1002, 3105, 3106), (3142, 1002, 3140, 3141), (3126, 1002, 3124, 3125), (3166, 1002, 3164, 3165), (3171, 1002, 3169, 3170), (1180, 1008, 1179, 0), (3072, 1008, 3070, 3071), (2083, 1008, 2081, 2082), (4084, 1008, 4082, 4083), (2087, 1008, 2086, 4), (1041, 1003, 1040, 0), (2091, 1003, 2089, 2090), (2154, 1003, 2152, 2153), (2161, 1003, 2159, 2160), (2150, 1003, 2148, 2149), (4001, 1003, 3239, 4000), (2167, 1003, 2165, 2166), (2105, 1003, 2103, 2104), (3130, 1003, 3128, 3129), (2115, 1003, 2113, 2114), (3226, 1003, 3224, 3225), (2172, 1003, 2170, 2171), (2122, 1003, 2120, 2121), (3193, 1003, 3191, 3192), (2130, 1003, 2128, 2129), (2138, 1003, 2136, 2137), (3111, 1003, 3109, 3110), (3103, 1003, 3101, 3102), (3091, 1003, 3089, 3090), (3137, 1003, 3135, 3136), (3118, 1003, 3116, 3117), (3122, 1003, 3120, 3121), (2101, 1003, 2099, 2100), (3180, 1003, 3178, 3179), (3153, 1003, 3151, 3152), (3157, 1003, 3156, 6), (3161, 1003, 3160, 7), (3149, 1003, 3147, 3148), (1146, 1006, 1145, 0), (4105, 1006, 4103, 4104), (4111, 1006, 4110, 8), (4125, 1006, 4123, 4124), (4129, 1006, 4128, 9), (4136, 1006, 4135, 0), (4133, 1006, 4132, 10), (4142, 1006, 4141, 11), (4183, 1021, 4182, 0), (4188, 1021, 4187, 0), (4191, 1021, 4190, 0), (1098, 1004, 1097, 0), (2142, 1004, 2140, 2141), (2175, 1004, 2174, 0), (2178, 1004, 2177, 0), (4213, 1022, 4212, 0), (4220, 1022, 4219, 0), (1200, 1009, 1199, 0), (3076, 1009, 3074, 3075), (5011, 1009, 5009, 5010), (4238, 1009, 4236, 4237), (5016, 1009, 5014, 5015), (1169, 1007, 1168, 0), (4161, 1007, 4159, 4160), (4168, 1007, 4167, 12), (4172, 1007, 4171, 13), (1216, 1010, 1215, 0), (3039, 1010, 3037, 3038), (3059, 1010, 3057, 3058), (2043, 1010, 2041, 2042), (2059, 1010, 2057, 2058), (2051, 1010, 2049, 2050), (2063, 1010, 2061, 2062), (2067, 1010, 2066, 1), (2075, 1010, 2074, 3), (2071, 1010, 2070, 2), (2055, 1010, 2054, 0), (1027, 1001, 1026, 0), (2207, 1001, 2205, 2206), (2039, 1001, 2037, 2038), (2047, 1001, 2045, 2046), (3066, 1001, 3064, 3065), (3187, 1001, 3185, 3186), (3202, 1001, 3200, 3201), (3235, 1001, 3233, 3234), (4010, 1001, 4008, 4009), (4020, 1001, 4018, 4019), (4028, 1001, 4026, 4027), (4040, 1001, 4038, 4039), (4051, 1001, 4049, 4050), (2079, 1001, 2077, 2078), (4061, 1001, 4059, 4060), (4071, 1001, 4069, 4070), (4079, 1001, 4077, 4078), (4091, 1001, 4089, 4090), (2134, 1001, 2132, 2133), (4100, 1001, 4098, 4099), (4121, 1001, 4119, 4120), (4149, 1001, 4147, 4148), (4157, 1001, 4155, 4156), (2193, 1001, 2191, 2192), (4179, 1001, 4177, 4178), (4207, 1001, 4205, 4206), (4230, 1001, 4228, 4229), (5007, 1001, 5005, 5006), (2157, 1001, 2156, 0), (3114, 1001, 3113, 0), (3099, 1001, 3098, 0), (3133, 1001, 3132, 0), (3145, 1001, 3144, 0), (3174, 1001, 3173, 0), (4233, 1001, 4232, 0), (2118, 1001, 2117, 0), (5022, 1011, 5021, 0), (5092, 1011, 5090, 5091), (5103, 1011, 5102, 15), (5099, 1011, 5098, 0), (5027, 1011, 5026, 14), (5153, 1011, 5152, 0), (6062, 1011, 6061, 56), (6157, 1011, 6156, 63), (6173, 1011, 6172, 67), (5169, 1011, 5168, 27), (5181, 1011, 5180, 30), (5209, 1011, 5208, 37), (5205, 1011, 5204, 36), (5233, 1011, 5232, 43), (5229, 1011, 5228, 42), (5213, 1011, 5212, 38), (5157, 1011, 5156, 24), (5150, 1011, 5149, 23), (5173, 1011, 5172, 28), (5165, 1011, 5164, 26), (5161, 1011, 5160, 25), (5177, 1011, 5176, 29), (5201, 1011, 5200, 35), (6191, 1011, 6190, 70), (5217, 1011, 5216, 39), (5197, 1011, 5196, 34), (5193, 1011, 5192, 33), (5189, 1011, 5188, 32), (5185, 1011, 5184, 31), (5221, 1011, 5220, 40), (6017, 1011, 6016, 49), (6013, 1011, 6012, 48), (6009, 1011, 6008, 47), (6001, 1011, 6000, 45), (6005, 1011, 6004, 46), (5237, 1011, 5236, 44), (5225, 1011, 5224, 41), (6022, 1011, 6021, 50), (6026, 1011, 6025, 51), (6030, 1011, 6029, 52), (5096, 1011, 5094, 5095), (5107, 1011, 5105, 5106), (5134, 1011, 5133, 20), (5130, 1011, 5129, 19), (5138, 1011, 5137, 21), (5126, 1011, 5125, 18), (5122, 1011, 5121, 0), (5119, 1011, 5118, 17), (5115, 1011, 5114, 16), (5111, 1011, 5109, 5110), (5146, 1011, 5145, 22), (5142, 1011, 5140, 5141), (6038, 1011, 6037, 53), (6034, 1011, 6032, 6033), (6046, 1011, 6045, 54), (6042, 1011, 6040, 6041), (6054, 1011, 6053, 55), (6050, 1011, 6048, 6049), (6058, 1011, 6056, 6057), (6066, 1011, 6064, 6065), (6070, 1011, 6068, 6069), (6074, 1011, 6072, 6073), (6078, 1011, 6076, 6077), (6082, 1011, 6080, 6081), (6086, 1011, 6084, 6085), (6090, 1011, 6088, 6089), (6094, 1011, 6092, 6093), (6102, 1011, 6101, 57), (6098, 1011, 6096, 6097), (6106, 1011, 6104, 6105), (6118, 1011, 6117, 59), (6114, 1011, 6113, 58), (6110, 1011, 6108, 6109), (6130, 1011, 6129, 61), (6126, 1011, 6125, 60), (6122, 1011, 6120, 6121), (6134, 1011, 6132, 6133), (6142, 1011, 6141, 62), (6138, 1011, 6136, 6137), (6146, 1011, 6144, 6145), (6169, 1011, 6168, 66), (6165, 1011, 6164, 65), (6161, 1011, 6160, 64), (6150, 1011, 6148, 6149), (6187, 1011, 6186, 69), (6181, 1011, 6180, 68), (6177, 1011, 6175, 6176), (6195, 1011, 6193, 6194), (6199, 1011, 6197, 6198), (2108, 1018, 2107, 0)]
/-- a word of the tables by its piece and its place there -/
noncomputable def am_wat (w : Nat) : Option Cond := match w / 1000 with
  | 0 => (k2_sels lw_privs)[w % 1000]?
  | 1 => tables_1_1[w % 1000]?
  | 2 => tables_1_2[w % 1000]?
  | 3 => tables_1_3[w % 1000]?
  | 4 => tables_1_4[w % 1000]?
  | 5 => tables_1_5[w % 1000]?
  | 6 => tables_1_6[w % 1000]?
  | _ => none
/-- a method's words by their places among lw_tbl: code, initialized; instance or static, selects -/
noncomputable def am_wp (m : Nat) : Nat × Nat × Nat × Nat := (am_wpl[m]?).getD (0, 0, 0, 0)
def am_fw (cn : String) (i a b : Nat) (v : Value) : Cond :=
  if v = .null then .fieldLink cn i ((am_q a).2.1 b).1 ((am_q a).2.1 b).2.1 ((am_q a).2.1 b).2.2.1 else .fieldLinkNest cn i ((am_q a).2.1 b).1 ((am_q a).2.1 b).2.1 ((am_q a).2.1 b).2.2.1 "FencedRows"
noncomputable def am_cw (y : Nat) : Cond := if am_hh y = [] then .code (am_nm y) (am_by y) (am_mx y) (am_rt y) else .codeWith (am_nm y) (am_by y) (am_mx y) (am_rt y) (am_hh y)
/-- what is the same of a method wherever it is called -/
noncomputable def am_mk (y : Nat) : Bool :=
  decide (am_wat (am_wp y).1 = some (am_cw y)) && decide (am_wat (am_wp y).2.1 = some (.initialized (am_cn y))) && plainName (am_cn y)
  && decide ((am_cn y) ≠ "java/lang/invoke/MethodHandle" ∧ (am_cn y) ≠ "java/lang/invoke/VarHandle" ∧ (parseMethodDescriptor (am_nm y).desc).map (fun d => d.parameters.length) = some (am_np y)) && decide (am_mx y ≤ 11)
noncomputable def am_mi (y : Nat) : Bool := decide (am_wat (am_wp y).2.2.1 = some (.instanceMethod (am_nm y)))
noncomputable def am_ms (y : Nat) : Bool := decide (am_wat (am_wp y).2.2.1 = some (.static (am_nm y)))
noncomputable def am_ml (y : Nat) : Bool := decide (am_wat (am_wp y).2.2.2 = some (.selects (am_cn y) (am_nm y) (am_nm y)))
def am_at (t : ArrayType) : Nat := match t with
  | .int => 0
  | .char => 1
  | .boolean => 2
  | .long => 3
  | _ => 9
noncomputable def am_lkw (m : Nat) (e : am_I) : Bool := match e.1 with
  | .getfield i => decide (am_wat e.2.2.2.2.1 = some (am_fw (am_cn m) i e.2.2.1 e.2.2.2.1 e.2.2.2.2.2)) && decide (e.2.2.1 < vwCl.length) && decide (e.2.2.2.1 < (am_q e.2.2.1).2.2)
  | .putfield i => decide (am_wat e.2.2.2.2.1 = some (am_fw (am_cn m) i e.2.2.1 e.2.2.2.1 e.2.2.2.2.2)) && decide (e.2.2.1 < vwCl.length) && decide (e.2.2.2.1 < (am_q e.2.2.1).2.2)
    && (decide (((am_q e.2.2.1).2.1 e.2.2.2.1).2.2.2 = false) || (decide ((am_nm m).name = "<init>") && decide (((am_q e.2.2.1).2.1 e.2.2.2.1).1 = am_cn m) && decide (((am_q e.2.2.1).2.1 e.2.2.2.1).2.2.2 = true) && decide (e.2.2.2.2.2 = .null)))
  | .ldc i => (match e.2.2.2.2.2 with
    | .int x => decide (am_wat e.2.2.2.2.1 = some (.constant (am_cn m) i x))
    | _ => false)
  | .ldc2_w i => (match e.2.2.2.2.2 with
    | .long x => decide (am_wat e.2.2.2.2.1 = some (.constantLong (am_cn m) i x))
    | _ => false)
  | .new i => decide (am_wat e.2.2.2.2.1 = some (.classLink (am_cn m) i (am_q e.2.2.1).1)) && decide (e.2.2.1 < vwCl.length) && decide (e.2.2.2.1 = (am_q e.2.2.1).2.2)
    && decide (am_wat ((am_kw[e.2.2.1]?).getD (0, 0)).1 = some (.instantiable (am_q e.2.2.1).1 e.2.2.2.1)) && decide (am_wat ((am_kw[e.2.2.1]?).getD (0, 0)).2 = some (.initialized (am_q e.2.2.1).1))
  | .newarray t => decide (am_at t = e.2.2.1) && decide (e.2.2.1 < 4) && decide (am_wat e.2.2.2.2.1 = some (.arrayClass (newarray.typeOf t)))
  | .anewarray i => decide (e.2.2.1 = 4) && decide (am_wat e.2.2.2.2.1 = some (.classLink (am_cn m) i "FencedRows$Meadow"))
  | .invokevirtual i => decide (am_wat e.2.2.2.2.1 = some (.methodLink (am_cn m) i (am_nm e.2.2.1))) && am_mk e.2.2.1 && am_mi e.2.2.1 && am_ml e.2.2.1 && decide (am_hh e.2.2.1 = []) && decide (e.2.2.2.1 = am_np e.2.2.1 + 1) && decide (e.2.2.2.2.2 = .int 0 ∨ e.2.2.2.2.2 = .int 8)
  | .invokestatic i => if e.2.2.2.2.2 = .int 7 then decide (am_wat e.2.2.2.2.1 = some (.methodLink (am_cn m) i arraycopyName)) else
    if e.2.2.2.2.2 = .int 10 then decide (am_wat e.2.2.2.2.1 = some (.methodLink (am_cn m) i Lib.Math.max.name)) else
    if e.2.2.2.2.2 = .int 11 then decide (am_wat e.2.2.2.2.1 = some (.methodLink (am_cn m) i Lib.Math.min.name)) else
    if e.2.2.2.2.2 = .int 12 then decide (am_wat e.2.2.2.2.1 = some (.methodLink (am_cn m) i Lib.Math.abs.name)) else
    am_mk e.2.2.1 && am_ms e.2.2.1 && decide (e.2.2.2.1 = am_np e.2.2.1) && (if e.2.2.2.2.2 = .int 3 then decide (am_wat e.2.2.2.2.1 = some (.methodLinkNest (am_cn m) i (am_nm e.2.2.1) "FencedRows")) && decide (am_hh e.2.2.1 = [])
      else decide (am_wat e.2.2.2.2.1 = some (.methodLink (am_cn m) i (am_nm e.2.2.1))) && (if e.2.2.2.2.2 = .int 9 then decide (am_hh e.2.2.1 ≠ []) else decide (e.2.2.2.2.2 = .int 2) && decide (am_hh e.2.2.1 = [])))
  | .invokespecial i => if e.2.2.2.2.2 = .int 6 then decide (am_wat e.2.2.2.2.1 = some (.methodLink (am_cn m) i objectInit)) else
    am_mk e.2.2.1 && am_mi e.2.2.1 && decide ((am_nm e.2.2.1).name = "<init>") && decide (am_hh e.2.2.1 = []) && decide (e.2.2.2.1 = am_np e.2.2.1 + 1) && decide (am_rt e.2.2.1 = none) && (if e.2.2.2.2.2 = .int 5 then decide (am_wat e.2.2.2.2.1 = some (.methodLinkNest (am_cn m) i (am_nm e.2.2.1) "FencedRows"))
      else decide (am_wat e.2.2.2.2.1 = some (.methodLink (am_cn m) i (am_nm e.2.2.1))) && decide (e.2.2.2.2.2 = .int 4))
  | _ => true
def am_ln : Instr → Nat
  | .bipush _ | .ldc _ | .iload _ | .lload _ | .aload _ | .istore _ | .lstore _ | .astore _ | .newarray _ => 2
  | .sipush _ | .ldc2_w _ | .iinc _ _ | .goto _ | .ifCond _ _ | .if_icmp _ _ | .ifnull _ | .getfield _ | .putfield _ | .new _ | .anewarray _ | .invokespecial _ | .invokestatic _ | .invokevirtual _ => 3
  | .tableswitch .. | .lookupswitch .. => 0
  | _ => 1
noncomputable def am_lk (m : Nat) (q : Nat × am_I) : Bool := match q.2.1 with
  | .athrow => true
  | _ => decide (decode (am_by m) q.1 = .ok (q.2.1, q.2.2.1)) && (decide (am_ln q.2.1 = 0) || decide (am_ln q.2.1 = q.2.2.1)) && am_lkw m q.2
theorem am_k0_0 : (am_c0_0.all (am_lk 0)) = true := by decide +kernel
theorem am_k0_1 : (am_c0_1.all (am_lk 0)) = true := by decide +kernel
theorem am_k0_2 : (am_c0_2.all (am_lk 0)) = true := by decide +kernel
theorem am_k0_3 : (am_c0_3.all (am_lk 0)) = true := by decide +kernel
theorem am_k0_4 : (am_c0_4.all (am_lk 0)) = true := by decide +kernel
theorem am_k0_5 : (am_c0_5.all (am_lk 0)) = true := by decide +kernel
theorem am_k0_6 : (am_c0_6.all (am_lk 0)) = true := by decide +kernel
theorem am_k0_7 : (am_c0_7.all (am_lk 0)) = true := by decide +kernel
theorem am_k0_8 : (am_c0_8.all (am_lk 0)) = true := by decide +kernel
theorem am_k0_9 : (am_c0_9.all (am_lk 0)) = true := by decide +kernel
theorem am_k0_10 : (am_c0_10.all (am_lk 0)) = true := by decide +kernel
theorem am_k0_11 : (am_c0_11.all (am_lk 0)) = true := by decide +kernel
theorem am_k0_12 : (am_c0_12.all (am_lk 0)) = true := by decide +kernel
theorem am_k0_13 : (am_c0_13.all (am_lk 0)) = true := by decide +kernel
theorem am_k0_14 : (am_c0_14.all (am_lk 0)) = true := by decide +kernel
theorem am_k0_15 : (am_c0_15.all (am_lk 0)) = true := by decide +kernel
theorem am_k0_16 : (am_c0_16.all (am_lk 0)) = true := by decide +kernel
theorem am_k1_0 : (am_c1_0.all (am_lk 1)) = true := by decide +kernel
theorem am_k2_0 : (am_c2_0.all (am_lk 2)) = true := by decide +kernel
theorem am_k3_0 : (am_c3_0.all (am_lk 3)) = true := by decide +kernel
theorem am_k4_0 : (am_c4_0.all (am_lk 4)) = true := by decide +kernel
theorem am_k5_0 : (am_c5_0.all (am_lk 5)) = true := by decide +kernel
theorem am_k6_0 : (am_c6_0.all (am_lk 6)) = true := by decide +kernel
theorem am_k7_0 : (am_c7_0.all (am_lk 7)) = true := by decide +kernel
theorem am_k8_0 : (am_c8_0.all (am_lk 8)) = true := by decide +kernel
theorem am_k9_0 : (am_c9_0.all (am_lk 9)) = true := by decide +kernel
theorem am_k10_0 : (am_c10_0.all (am_lk 10)) = true := by decide +kernel
theorem am_k11_0 : (am_c11_0.all (am_lk 11)) = true := by decide +kernel
theorem am_k12_0 : (am_c12_0.all (am_lk 12)) = true := by decide +kernel
theorem am_k13_0 : (am_c13_0.all (am_lk 13)) = true := by decide +kernel
theorem am_k14_0 : (am_c14_0.all (am_lk 14)) = true := by decide +kernel
theorem am_k15_0 : (am_c15_0.all (am_lk 15)) = true := by decide +kernel
theorem am_k16_0 : (am_c16_0.all (am_lk 16)) = true := by decide +kernel
theorem am_k17_0 : (am_c17_0.all (am_lk 17)) = true := by decide +kernel
theorem am_k18_0 : (am_c18_0.all (am_lk 18)) = true := by decide +kernel
theorem am_k19_0 : (am_c19_0.all (am_lk 19)) = true := by decide +kernel
theorem am_k20_0 : (am_c20_0.all (am_lk 20)) = true := by decide +kernel
theorem am_k21_0 : (am_c21_0.all (am_lk 21)) = true := by decide +kernel
theorem am_k22_0 : (am_c22_0.all (am_lk 22)) = true := by decide +kernel
theorem am_k23_0 : (am_c23_0.all (am_lk 23)) = true := by decide +kernel
theorem am_k24_0 : (am_c24_0.all (am_lk 24)) = true := by decide +kernel
theorem am_k25_0 : (am_c25_0.all (am_lk 25)) = true := by decide +kernel
theorem am_k26_0 : (am_c26_0.all (am_lk 26)) = true := by decide +kernel
theorem am_k27_0 : (am_c27_0.all (am_lk 27)) = true := by decide +kernel
theorem am_k28_0 : (am_c28_0.all (am_lk 28)) = true := by decide +kernel
theorem am_k29_0 : (am_c29_0.all (am_lk 29)) = true := by decide +kernel
theorem am_k30_0 : (am_c30_0.all (am_lk 30)) = true := by decide +kernel
theorem am_k31_0 : (am_c31_0.all (am_lk 31)) = true := by decide +kernel
theorem am_k32_0 : (am_c32_0.all (am_lk 32)) = true := by decide +kernel
theorem am_k33_0 : (am_c33_0.all (am_lk 33)) = true := by decide +kernel
theorem am_k34_0 : (am_c34_0.all (am_lk 34)) = true := by decide +kernel
theorem am_k35_0 : (am_c35_0.all (am_lk 35)) = true := by decide +kernel
theorem am_k36_0 : (am_c36_0.all (am_lk 36)) = true := by decide +kernel
theorem am_k37_0 : (am_c37_0.all (am_lk 37)) = true := by decide +kernel
theorem am_k38_0 : (am_c38_0.all (am_lk 38)) = true := by decide +kernel
theorem am_k39_0 : (am_c39_0.all (am_lk 39)) = true := by decide +kernel
theorem am_k40_0 : (am_c40_0.all (am_lk 40)) = true := by decide +kernel
theorem am_k41_0 : (am_c41_0.all (am_lk 41)) = true := by decide +kernel
theorem am_k42_0 : (am_c42_0.all (am_lk 42)) = true := by decide +kernel
theorem am_k42_1 : (am_c42_1.all (am_lk 42)) = true := by decide +kernel
theorem am_k43_0 : (am_c43_0.all (am_lk 43)) = true := by decide +kernel
theorem am_k44_0 : (am_c44_0.all (am_lk 44)) = true := by decide +kernel
theorem am_k45_0 : (am_c45_0.all (am_lk 45)) = true := by decide +kernel
theorem am_k46_0 : (am_c46_0.all (am_lk 46)) = true := by decide +kernel
theorem am_k47_0 : (am_c47_0.all (am_lk 47)) = true := by decide +kernel
theorem am_k48_0 : (am_c48_0.all (am_lk 48)) = true := by decide +kernel
theorem am_k49_0 : (am_c49_0.all (am_lk 49)) = true := by decide +kernel
theorem am_k50_0 : (am_c50_0.all (am_lk 50)) = true := by decide +kernel
theorem am_k51_0 : (am_c51_0.all (am_lk 51)) = true := by decide +kernel
theorem am_k52_0 : (am_c52_0.all (am_lk 52)) = true := by decide +kernel
theorem am_k53_0 : (am_c53_0.all (am_lk 53)) = true := by decide +kernel
theorem am_k54_0 : (am_c54_0.all (am_lk 54)) = true := by decide +kernel
theorem am_k55_0 : (am_c55_0.all (am_lk 55)) = true := by decide +kernel
theorem am_k56_0 : (am_c56_0.all (am_lk 56)) = true := by decide +kernel
theorem am_k57_0 : (am_c57_0.all (am_lk 57)) = true := by decide +kernel
theorem am_k58_0 : (am_c58_0.all (am_lk 58)) = true := by decide +kernel
theorem am_k59_0 : (am_c59_0.all (am_lk 59)) = true := by decide +kernel
theorem am_k60_0 : (am_c60_0.all (am_lk 60)) = true := by decide +kernel
theorem am_k61_0 : (am_c61_0.all (am_lk 61)) = true := by decide +kernel
theorem am_k62_0 : (am_c62_0.all (am_lk 62)) = true := by decide +kernel
theorem am_k63_0 : (am_c63_0.all (am_lk 63)) = true := by decide +kernel
theorem am_k64_0 : (am_c64_0.all (am_lk 64)) = true := by decide +kernel
theorem am_k65_0 : (am_c65_0.all (am_lk 65)) = true := by decide +kernel
theorem am_k66_0 : (am_c66_0.all (am_lk 66)) = true := by decide +kernel
theorem am_k67_0 : (am_c67_0.all (am_lk 67)) = true := by decide +kernel
theorem am_k68_0 : (am_c68_0.all (am_lk 68)) = true := by decide +kernel
theorem am_k69_0 : (am_c69_0.all (am_lk 69)) = true := by decide +kernel
theorem am_k70_0 : (am_c70_0.all (am_lk 70)) = true := by decide +kernel
theorem am_k71_0 : (am_c71_0.all (am_lk 71)) = true := by decide +kernel
theorem am_k72_0 : (am_c72_0.all (am_lk 72)) = true := by decide +kernel
theorem am_k73_0 : (am_c73_0.all (am_lk 73)) = true := by decide +kernel
theorem am_k74_0 : (am_c74_0.all (am_lk 74)) = true := by decide +kernel
theorem am_k75_0 : (am_c75_0.all (am_lk 75)) = true := by decide +kernel
theorem am_k76_0 : (am_c76_0.all (am_lk 76)) = true := by decide +kernel
theorem am_k77_0 : (am_c77_0.all (am_lk 77)) = true := by decide +kernel
theorem am_k78_0 : (am_c78_0.all (am_lk 78)) = true := by decide +kernel
theorem am_k79_0 : (am_c79_0.all (am_lk 79)) = true := by decide +kernel
theorem am_k79_1 : (am_c79_1.all (am_lk 79)) = true := by decide +kernel
theorem am_k79_2 : (am_c79_2.all (am_lk 79)) = true := by decide +kernel
theorem am_k80_0 : (am_c80_0.all (am_lk 80)) = true := by decide +kernel
theorem am_k81_0 : (am_c81_0.all (am_lk 81)) = true := by decide +kernel
theorem am_k81_1 : (am_c81_1.all (am_lk 81)) = true := by decide +kernel
theorem am_k82_0 : (am_c82_0.all (am_lk 82)) = true := by decide +kernel
theorem am_k82_1 : (am_c82_1.all (am_lk 82)) = true := by decide +kernel
theorem am_k83_0 : (am_c83_0.all (am_lk 83)) = true := by decide +kernel
theorem am_k84_0 : (am_c84_0.all (am_lk 84)) = true := by decide +kernel
theorem am_k84_1 : (am_c84_1.all (am_lk 84)) = true := by decide +kernel
theorem am_k85_0 : (am_c85_0.all (am_lk 85)) = true := by decide +kernel
theorem am_k86_0 : (am_c86_0.all (am_lk 86)) = true := by decide +kernel
theorem am_k87_0 : (am_c87_0.all (am_lk 87)) = true := by decide +kernel
theorem am_k88_0 : (am_c88_0.all (am_lk 88)) = true := by decide +kernel
theorem am_k89_0 : (am_c89_0.all (am_lk 89)) = true := by decide +kernel
theorem am_k90_0 : (am_c90_0.all (am_lk 90)) = true := by decide +kernel
theorem am_k91_0 : (am_c91_0.all (am_lk 91)) = true := by decide +kernel
theorem am_k92_0 : (am_c92_0.all (am_lk 92)) = true := by decide +kernel
theorem am_k92_1 : (am_c92_1.all (am_lk 92)) = true := by decide +kernel
theorem am_k93_0 : (am_c93_0.all (am_lk 93)) = true := by decide +kernel
theorem am_k94_0 : (am_c94_0.all (am_lk 94)) = true := by decide +kernel
theorem am_k95_0 : (am_c95_0.all (am_lk 95)) = true := by decide +kernel
theorem am_k96_0 : (am_c96_0.all (am_lk 96)) = true := by decide +kernel
theorem am_k97_0 : (am_c97_0.all (am_lk 97)) = true := by decide +kernel
theorem am_k98_0 : (am_c98_0.all (am_lk 98)) = true := by decide +kernel
theorem am_k99_0 : (am_c99_0.all (am_lk 99)) = true := by decide +kernel
theorem am_k100_0 : (am_c100_0.all (am_lk 100)) = true := by decide +kernel
theorem am_k101_0 : (am_c101_0.all (am_lk 101)) = true := by decide +kernel
theorem am_k101_1 : (am_c101_1.all (am_lk 101)) = true := by decide +kernel
theorem am_k102_0 : (am_c102_0.all (am_lk 102)) = true := by decide +kernel
theorem am_k103_0 : (am_c103_0.all (am_lk 103)) = true := by decide +kernel
theorem am_k104_0 : (am_c104_0.all (am_lk 104)) = true := by decide +kernel
theorem am_k104_1 : (am_c104_1.all (am_lk 104)) = true := by decide +kernel
theorem am_k105_0 : (am_c105_0.all (am_lk 105)) = true := by decide +kernel
theorem am_k106_0 : (am_c106_0.all (am_lk 106)) = true := by decide +kernel
theorem am_k107_0 : (am_c107_0.all (am_lk 107)) = true := by decide +kernel
theorem am_k108_0 : (am_c108_0.all (am_lk 108)) = true := by decide +kernel
theorem am_k109_0 : (am_c109_0.all (am_lk 109)) = true := by decide +kernel
theorem am_k110_0 : (am_c110_0.all (am_lk 110)) = true := by decide +kernel
theorem am_k111_0 : (am_c111_0.all (am_lk 111)) = true := by decide +kernel
theorem am_k112_0 : (am_c112_0.all (am_lk 112)) = true := by decide +kernel
theorem am_k113_0 : (am_c113_0.all (am_lk 113)) = true := by decide +kernel
theorem am_k114_0 : (am_c114_0.all (am_lk 114)) = true := by decide +kernel
theorem am_k115_0 : (am_c115_0.all (am_lk 115)) = true := by decide +kernel
theorem am_k116_0 : (am_c116_0.all (am_lk 116)) = true := by decide +kernel
theorem am_k117_0 : (am_c117_0.all (am_lk 117)) = true := by decide +kernel
theorem am_k118_0 : (am_c118_0.all (am_lk 118)) = true := by decide +kernel
theorem am_k119_0 : (am_c119_0.all (am_lk 119)) = true := by decide +kernel
theorem am_k120_0 : (am_c120_0.all (am_lk 120)) = true := by decide +kernel
theorem am_k121_0 : (am_c121_0.all (am_lk 121)) = true := by decide +kernel
theorem am_k122_0 : (am_c122_0.all (am_lk 122)) = true := by decide +kernel
theorem am_k123_0 : (am_c123_0.all (am_lk 123)) = true := by decide +kernel
theorem am_k124_0 : (am_c124_0.all (am_lk 124)) = true := by decide +kernel
theorem am_k125_0 : (am_c125_0.all (am_lk 125)) = true := by decide +kernel
theorem am_k126_0 : (am_c126_0.all (am_lk 126)) = true := by decide +kernel
theorem am_k127_0 : (am_c127_0.all (am_lk 127)) = true := by decide +kernel
theorem am_k128_0 : (am_c128_0.all (am_lk 128)) = true := by decide +kernel
theorem am_k129_0 : (am_c129_0.all (am_lk 129)) = true := by decide +kernel
theorem am_k130_0 : (am_c130_0.all (am_lk 130)) = true := by decide +kernel
theorem am_k131_0 : (am_c131_0.all (am_lk 131)) = true := by decide +kernel
theorem am_k132_0 : (am_c132_0.all (am_lk 132)) = true := by decide +kernel
theorem am_k133_0 : (am_c133_0.all (am_lk 133)) = true := by decide +kernel
theorem am_k134_0 : (am_c134_0.all (am_lk 134)) = true := by decide +kernel
theorem am_k135_0 : (am_c135_0.all (am_lk 135)) = true := by decide +kernel
theorem am_k136_0 : (am_c136_0.all (am_lk 136)) = true := by decide +kernel
theorem am_k137_0 : (am_c137_0.all (am_lk 137)) = true := by decide +kernel
theorem am_k138_0 : (am_c138_0.all (am_lk 138)) = true := by decide +kernel
theorem am_k139_0 : (am_c139_0.all (am_lk 139)) = true := by decide +kernel
theorem am_k140_0 : (am_c140_0.all (am_lk 140)) = true := by decide +kernel
theorem am_k141_0 : (am_c141_0.all (am_lk 141)) = true := by decide +kernel
theorem am_k142_0 : (am_c142_0.all (am_lk 142)) = true := by decide +kernel
theorem am_k143_0 : (am_c143_0.all (am_lk 143)) = true := by decide +kernel
theorem am_k144_0 : (am_c144_0.all (am_lk 144)) = true := by decide +kernel
theorem am_k145_0 : (am_c145_0.all (am_lk 145)) = true := by decide +kernel
theorem am_k146_0 : (am_c146_0.all (am_lk 146)) = true := by decide +kernel
theorem am_k147_0 : (am_c147_0.all (am_lk 147)) = true := by decide +kernel
theorem am_k148_0 : (am_c148_0.all (am_lk 148)) = true := by decide +kernel
theorem am_k149_0 : (am_c149_0.all (am_lk 149)) = true := by decide +kernel
theorem am_k150_0 : (am_c150_0.all (am_lk 150)) = true := by decide +kernel
theorem am_k151_0 : (am_c151_0.all (am_lk 151)) = true := by decide +kernel
theorem am_k152_0 : (am_c152_0.all (am_lk 152)) = true := by decide +kernel
theorem am_k153_0 : (am_c153_0.all (am_lk 153)) = true := by decide +kernel
theorem am_k154_0 : (am_c154_0.all (am_lk 154)) = true := by decide +kernel
theorem am_k155_0 : (am_c155_0.all (am_lk 155)) = true := by decide +kernel
theorem am_k156_0 : (am_c156_0.all (am_lk 156)) = true := by decide +kernel
theorem am_k157_0 : (am_c157_0.all (am_lk 157)) = true := by decide +kernel
theorem am_k158_0 : (am_c158_0.all (am_lk 158)) = true := by decide +kernel
theorem am_k159_0 : (am_c159_0.all (am_lk 159)) = true := by decide +kernel
theorem am_k160_0 : (am_c160_0.all (am_lk 160)) = true := by decide +kernel
theorem am_k161_0 : (am_c161_0.all (am_lk 161)) = true := by decide +kernel
theorem am_k162_0 : (am_c162_0.all (am_lk 162)) = true := by decide +kernel
theorem am_k163_0 : (am_c163_0.all (am_lk 163)) = true := by decide +kernel
theorem am_k164_0 : (am_c164_0.all (am_lk 164)) = true := by decide +kernel
theorem am_k165_0 : (am_c165_0.all (am_lk 165)) = true := by decide +kernel
theorem am_k166_0 : (am_c166_0.all (am_lk 166)) = true := by decide +kernel
theorem am_k166_1 : (am_c166_1.all (am_lk 166)) = true := by decide +kernel
theorem am_k167_0 : (am_c167_0.all (am_lk 167)) = true := by decide +kernel
theorem am_k168_0 : (am_c168_0.all (am_lk 168)) = true := by decide +kernel
theorem am_k169_0 : (am_c169_0.all (am_lk 169)) = true := by decide +kernel
theorem am_k170_0 : (am_c170_0.all (am_lk 170)) = true := by decide +kernel
theorem am_k170_1 : (am_c170_1.all (am_lk 170)) = true := by decide +kernel
theorem am_k171_0 : (am_c171_0.all (am_lk 171)) = true := by decide +kernel
theorem am_k172_0 : (am_c172_0.all (am_lk 172)) = true := by decide +kernel
theorem am_k173_0 : (am_c173_0.all (am_lk 173)) = true := by decide +kernel
theorem am_k174_0 : (am_c174_0.all (am_lk 174)) = true := by decide +kernel
theorem am_k174_1 : (am_c174_1.all (am_lk 174)) = true := by decide +kernel
theorem am_k175_0 : (am_c175_0.all (am_lk 175)) = true := by decide +kernel
theorem am_k176_0 : (am_c176_0.all (am_lk 176)) = true := by decide +kernel
theorem am_k176_1 : (am_c176_1.all (am_lk 176)) = true := by decide +kernel
theorem am_k177_0 : (am_c177_0.all (am_lk 177)) = true := by decide +kernel
theorem am_k178_0 : (am_c178_0.all (am_lk 178)) = true := by decide +kernel
theorem am_k178_1 : (am_c178_1.all (am_lk 178)) = true := by decide +kernel
theorem am_k179_0 : (am_c179_0.all (am_lk 179)) = true := by decide +kernel
theorem am_k180_0 : (am_c180_0.all (am_lk 180)) = true := by decide +kernel
theorem am_k181_0 : (am_c181_0.all (am_lk 181)) = true := by decide +kernel
theorem am_k182_0 : (am_c182_0.all (am_lk 182)) = true := by decide +kernel
theorem am_k183_0 : (am_c183_0.all (am_lk 183)) = true := by decide +kernel
theorem am_k184_0 : (am_c184_0.all (am_lk 184)) = true := by decide +kernel
theorem am_k185_0 : (am_c185_0.all (am_lk 185)) = true := by decide +kernel
theorem am_k186_0 : (am_c186_0.all (am_lk 186)) = true := by decide +kernel
theorem am_k187_0 : (am_c187_0.all (am_lk 187)) = true := by decide +kernel
theorem am_k187_1 : (am_c187_1.all (am_lk 187)) = true := by decide +kernel
theorem am_k188_0 : (am_c188_0.all (am_lk 188)) = true := by decide +kernel
theorem am_k189_0 : (am_c189_0.all (am_lk 189)) = true := by decide +kernel
theorem am_k190_0 : (am_c190_0.all (am_lk 190)) = true := by decide +kernel
theorem am_k191_0 : (am_c191_0.all (am_lk 191)) = true := by decide +kernel
theorem am_k192_0 : (am_c192_0.all (am_lk 192)) = true := by decide +kernel
theorem am_k193_0 : (am_c193_0.all (am_lk 193)) = true := by decide +kernel
theorem am_k194_0 : (am_c194_0.all (am_lk 194)) = true := by decide +kernel
theorem am_k195_0 : (am_c195_0.all (am_lk 195)) = true := by decide +kernel
theorem am_k196_0 : (am_c196_0.all (am_lk 196)) = true := by decide +kernel
theorem am_k197_0 : (am_c197_0.all (am_lk 197)) = true := by decide +kernel
theorem am_k198_0 : (am_c198_0.all (am_lk 198)) = true := by decide +kernel
theorem am_k199_0 : (am_c199_0.all (am_lk 199)) = true := by decide +kernel
theorem am_k200_0 : (am_c200_0.all (am_lk 200)) = true := by decide +kernel
theorem am_k201_0 : (am_c201_0.all (am_lk 201)) = true := by decide +kernel
theorem am_k202_0 : (am_c202_0.all (am_lk 202)) = true := by decide +kernel
theorem am_k203_0 : (am_c203_0.all (am_lk 203)) = true := by decide +kernel
theorem am_k204_0 : (am_c204_0.all (am_lk 204)) = true := by decide +kernel
theorem am_k205_0 : (am_c205_0.all (am_lk 205)) = true := by decide +kernel
theorem am_k206_0 : (am_c206_0.all (am_lk 206)) = true := by decide +kernel
theorem am_k207_0 : (am_c207_0.all (am_lk 207)) = true := by decide +kernel
theorem am_k208_0 : (am_c208_0.all (am_lk 208)) = true := by decide +kernel
theorem am_k209_0 : (am_c209_0.all (am_lk 209)) = true := by decide +kernel
theorem am_k210_0 : (am_c210_0.all (am_lk 210)) = true := by decide +kernel
theorem am_k211_0 : (am_c211_0.all (am_lk 211)) = true := by decide +kernel
theorem am_k212_0 : (am_c212_0.all (am_lk 212)) = true := by decide +kernel
theorem am_k213_0 : (am_c213_0.all (am_lk 213)) = true := by decide +kernel
theorem am_k214_0 : (am_c214_0.all (am_lk 214)) = true := by decide +kernel
theorem am_k215_0 : (am_c215_0.all (am_lk 215)) = true := by decide +kernel
theorem am_k216_0 : (am_c216_0.all (am_lk 216)) = true := by decide +kernel
theorem am_k216_1 : (am_c216_1.all (am_lk 216)) = true := by decide +kernel
theorem am_k217_0 : (am_c217_0.all (am_lk 217)) = true := by decide +kernel
theorem am_k218_0 : (am_c218_0.all (am_lk 218)) = true := by decide +kernel
theorem am_k219_0 : (am_c219_0.all (am_lk 219)) = true := by decide +kernel
theorem am_k219_1 : (am_c219_1.all (am_lk 219)) = true := by decide +kernel
theorem am_k220_0 : (am_c220_0.all (am_lk 220)) = true := by decide +kernel
theorem am_k221_0 : (am_c221_0.all (am_lk 221)) = true := by decide +kernel
theorem am_k221_1 : (am_c221_1.all (am_lk 221)) = true := by decide +kernel
theorem am_k222_0 : (am_c222_0.all (am_lk 222)) = true := by decide +kernel
theorem am_k223_0 : (am_c223_0.all (am_lk 223)) = true := by decide +kernel
theorem am_k223_1 : (am_c223_1.all (am_lk 223)) = true := by decide +kernel
theorem am_k223_2 : (am_c223_2.all (am_lk 223)) = true := by decide +kernel
theorem am_k224_0 : (am_c224_0.all (am_lk 224)) = true := by decide +kernel
theorem am_k225_0 : (am_c225_0.all (am_lk 225)) = true := by decide +kernel
theorem am_k226_0 : (am_c226_0.all (am_lk 226)) = true := by decide +kernel
theorem am_k226_1 : (am_c226_1.all (am_lk 226)) = true := by decide +kernel
theorem am_k227_0 : (am_c227_0.all (am_lk 227)) = true := by decide +kernel
theorem am_k227_1 : (am_c227_1.all (am_lk 227)) = true := by decide +kernel
theorem am_k228_0 : (am_c228_0.all (am_lk 228)) = true := by decide +kernel
theorem am_k229_0 : (am_c229_0.all (am_lk 229)) = true := by decide +kernel
theorem am_k230_0 : (am_c230_0.all (am_lk 230)) = true := by decide +kernel
theorem am_k231_0 : (am_c231_0.all (am_lk 231)) = true := by decide +kernel
