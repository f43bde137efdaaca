def sgk : List (Nat × Nat) := [(0, 1), (0, 1), (0, 2), (0, 2), (1, 0), (1, 2), (1, 2), (1, 1), (1, 1), (1, 1), (1, 1), (1, 1), (1, 1), (0, 1), (0, 1), (1, 1), (0, 2), (1, 1), (1, 1), (0, 1), (0, 2), (0, 1), (0, 1), (1, 1), (1, 2), (1, 1), (1, 1), (1, 0), (1, 1), (0, 1), (0, 1), (0, 3), (1, 2), (1, 1), (1, 1), (0, 2), (1, 2), (1, 1), (1, 1), (1, 2), (0, 2), (1, 3), (1, 2), (1, 2), (1, 2), (1, 2), (1, 1), (1, 2), (1, 2), (1, 2), (1, 0), (1, 2), (1, 2), (1, 3), (1, 2), (1, 0), (1, 1), (1, 0), (1, 1), (1, 0), (1, 0), (1, 1), (1, 0), (1, 1), (1, 0), (1, 1), (1, 1), (1, 1), (1, 2), (1, 4), (1, 3), (1, 1), (2, 1), (1, 3), (1, 1), (1, 1), (1, 1), (1, 1), (1, 2), (1, 2), (1, 3), (0, 3), (1, 1), (1, 1), (1, 1), (1, 3), (1, 3), (1, 1), (1, 2), (1, 2), (1, 2), (1, 1), (1, 2), (1, 1), (1, 3), (1, 2), (2, 0), (1, 1), (0, 1), (1, 1), (0, 1), (1, 3), (1, 5), (0, 1), (1, 3), (1, 3), (1, 0), (1, 0), (1, 1), (1, 1), (1, 1), (2, 0), (1, 2), (1, 2), (2, 0), (1, 2), (1, 1), (1, 1), (1, 2), (2, 0), (1, 1), (2, 1), (1, 1), (1, 2), (1, 3), (2, 0), (1, 1), (1, 1), (1, 1), (1, 1), (1, 0), (1, 2), (1, 1), (1, 3), (1, 4), (1, 1), (1, 2), (1, 2), (1, 1), (1, 3), (1, 4), (1, 3), (1, 1), (1, 1), (1, 2), (1, 1), (1, 1), (1, 2), (1, 2), (1, 2), (1, 3), (1, 1), (1, 2), (2, 1), (1, 3), (2, 0), (1, 1), (1, 1), (2, 3), (1, 2), (2, 2), (1, 3), (1, 2), (1, 1), (1, 2), (1, 0), (1, 0), (2, 0), (1, 1), (1, 5), (1, 3), (1, 4), (1, 2), (1, 1), (1, 2), (1, 4), (1, 0), (1, 2), (1, 1), (1, 1), (1, 2), (1, 3), (1, 3), (1, 2), (1, 0), (1, 0), (1, 3), (1, 4), (1, 2), (1, 2), (1, 4), (1, 4), (1, 3), (1, 5), (1, 2), (1, 3), (1, 4), (1, 1), (1, 3), (1, 3), (1, 2), (1, 4), (1, 1), (1, 4), (1, 1), (1, 4), (1, 3), (1, 1), (1, 3), (1, 2), (1, 5), (1, 3), (1, 2), (1, 3), (1, 3), (1, 2), (1, 2), (1, 1), (1, 4), (1, 4), (1, 2), (1, 2), (1, 1), (1, 4), (1, 4), (1, 3), (1, 4), (1, 1), (1, 3), (1, 5), (1, 2), (1, 3), (1, 2), (1, 1), (1, 4), (1, 3), (1, 2), (1, 3), (1, 3), (1, 2), (1, 2), (1, 1), (1, 3), (1, 3), (1, 3), (1, 2), (1, 3), (1, 3), (1, 3), (1, 3), (1, 2), (1, 3)]
def sgp : List (List Nat) := [[5107, 1016, 5106, 0, 0], [5068, 1015, 5067, 0, 0], [1040, 1004, 1039, 0, 0], [3090, 1004, 3089, 0, 0], [3036, 1009, 0, 3035, 2], [3197, 1009, 0, 3196, 17], [3051, 1009, 0, 3049, 3050], [3066, 1009, 0, 3065, 6], [3109, 1009, 0, 3108, 11], [4028, 1009, 0, 4026, 4027], [4024, 1009, 0, 4022, 4023], [3070, 1009, 0, 3069, 7], [3083, 1009, 0, 3081, 3082], [4003, 1001, 4002, 0, 0], [3058, 1001, 3057, 0, 0], [3220, 1001, 0, 3218, 3219], [3039, 1001, 3038, 0, 0], [3228, 1001, 0, 3227, 19], [4201, 1001, 0, 4200, 23], [3000, 1001, 2239, 0, 0], [4061, 1001, 4060, 0, 0], [4122, 1001, 4121, 0, 0], [3003, 1001, 3002, 0, 0], [3028, 1001, 0, 3027, 1], [7083, 1013, 0, 7082, 62], [6169, 1013, 0, 6168, 42], [7063, 1013, 0, 7062, 60], [6158, 1013, 0, 6157, 40], [7067, 1013, 0, 7066, 61], [7230, 1013, 7229, 0, 0], [6176, 1013, 6175, 0, 0], [6135, 1013, 6134, 0, 0], [6154, 1013, 0, 6153, 39], [8010, 1013, 0, 8009, 86], [8034, 1013, 0, 8033, 88], [6161, 1013, 6160, 0, 0], [8026, 1013, 0, 8025, 87], [8038, 1013, 0, 8037, 89], [7055, 1013, 0, 7054, 59], [6180, 1013, 0, 6179, 44], [7166, 1013, 7165, 0, 0], [7186, 1013, 0, 7185, 73], [7001, 1013, 0, 7000, 53], [7151, 1013, 0, 7150, 69], [6188, 1013, 0, 6187, 46], [8006, 1013, 0, 8005, 85], [7035, 1013, 0, 7034, 56], [7238, 1013, 0, 7237, 83], [5006, 1011, 0, 5005, 29], [4238, 1011, 0, 4236, 4237], [5019, 1011, 0, 5017, 5018], [4073, 1006, 0, 4071, 4072], [4115, 1005, 0, 4113, 4114], [4040, 1005, 0, 4038, 4039], [3139, 1002, 0, 3138, 15], [3020, 1002, 0, 3018, 3019], [4226, 1012, 0, 4224, 4225], [5031, 1012, 0, 5029, 5030], [5015, 1012, 0, 5013, 5014], [5011, 1012, 0, 5009, 5010], [3170, 1003, 0, 3168, 3169], [4185, 1003, 0, 4183, 4184], [3007, 1003, 0, 3005, 3006], [4234, 1010, 0, 4233, 28], [5027, 1010, 0, 5026, 30], [5040, 1010, 0, 5038, 5039], [5023, 1010, 0, 5021, 5022], [5044, 1010, 0, 5042, 5043], [5052, 1010, 0, 5050, 5051], [4193, 1008, 0, 4191, 4192], [4173, 1007, 0, 4171, 4172], [4145, 1007, 0, 4143, 4144], [2017, 1009, 0, 2016, 0], [3062, 1009, 0, 3061, 5], [4020, 1009, 0, 4018, 4019], [3105, 1009, 0, 3103, 3104], [3047, 1009, 0, 3045, 3046], [3074, 1009, 0, 3073, 8], [3224, 1001, 0, 3222, 3223], [4111, 1001, 0, 4109, 4110], [3211, 1001, 0, 3209, 3210], [4058, 1001, 4057, 0, 0], [4015, 1001, 0, 4014, 21], [3236, 1001, 0, 3235, 20], [3216, 1001, 0, 3214, 3215], [4165, 1001, 0, 4163, 4164], [4169, 1001, 0, 4167, 4168], [5104, 1001, 0, 5102, 5103], [7155, 1013, 0, 7154, 70], [7022, 1013, 0, 7020, 7021], [7163, 1013, 0, 7162, 71], [7018, 1013, 0, 7016, 7017], [7075, 1013, 0, 7073, 7074], [7120, 1013, 0, 7119, 65], [7103, 1013, 0, 7102, 64], [6237, 1013, 0, 6236, 52], [5115, 1013, 0, 5114, 0], [7199, 1013, 0, 7198, 74], [6131, 1013, 6130, 0, 0], [6200, 1013, 0, 6199, 49], [7139, 1013, 7138, 0, 0], [8002, 1013, 0, 8001, 84], [6204, 1013, 0, 6203, 50], [8046, 1013, 8045, 0, 0], [7170, 1013, 0, 7168, 7169], [6173, 1013, 0, 6172, 43], [7051, 1013, 0, 7050, 58], [6150, 1013, 0, 6149, 38], [6184, 1013, 0, 6183, 45], [7227, 1013, 0, 7226, 81], [5002, 1011, 0, 5000, 5001], [2094, 1011, 0, 2093, 0], [4106, 1005, 0, 4104, 4105], [4158, 1005, 0, 4156, 4157], [1127, 1005, 0, 1126, 0], [3201, 1002, 0, 3199, 3200], [3135, 1002, 0, 3134, 14], [3129, 1002, 0, 3128, 13], [4055, 1002, 0, 4053, 4054], [2115, 1012, 0, 2114, 0], [3011, 1003, 0, 3009, 3010], [1036, 1003, 0, 1035, 0], [3087, 1003, 0, 3085, 3086], [3094, 1003, 0, 3092, 3093], [5060, 1010, 0, 5058, 5059], [1230, 1008, 0, 1229, 0], [3193, 1009, 0, 3191, 3192], [3113, 1009, 0, 3111, 3112], [3158, 1009, 0, 3156, 3157], [3117, 1009, 0, 3115, 3116], [3101, 1009, 0, 3100, 10], [3079, 1009, 0, 3078, 9], [3043, 1009, 0, 3042, 3], [4051, 1001, 0, 4049, 4050], [4189, 1001, 0, 4187, 4188], [5083, 1001, 0, 5082, 33], [4069, 1001, 0, 4067, 4068], [2237, 1001, 0, 2235, 2236], [6165, 1013, 0, 6164, 41], [7234, 1013, 0, 7233, 82], [7099, 1013, 0, 7098, 63], [7009, 1013, 0, 7007, 7008], [7132, 1013, 0, 7131, 67], [7030, 1013, 0, 7029, 55], [7147, 1013, 0, 7146, 68], [6196, 1013, 0, 6195, 48], [7014, 1013, 0, 7012, 7013], [7223, 1013, 0, 7222, 80], [7005, 1013, 0, 7004, 54], [7112, 1013, 0, 7110, 7111], [7174, 1013, 0, 7172, 7173], [8042, 1013, 0, 8040, 8041], [6128, 1013, 0, 6126, 6127], [1145, 1006, 0, 1144, 0], [3125, 1002, 0, 3123, 3124], [1029, 1002, 0, 1028, 0], [3174, 1003, 0, 3172, 3173], [5091, 1003, 0, 5089, 5090], [2088, 1010, 0, 2087, 0], [4230, 1010, 0, 4229, 27], [1183, 1007, 0, 1182, 0], [4141, 1007, 0, 4139, 4140], [4154, 1007, 0, 4152, 4153], [3055, 1009, 0, 3054, 4], [4085, 1009, 0, 4083, 4084], [5096, 1001, 0, 5095, 35], [5087, 1001, 0, 5086, 34], [1021, 1001, 0, 1020, 0], [5079, 1001, 0, 5078, 32], [3121, 1001, 0, 3120, 12], [7094, 1013, 0, 7092, 7093], [7190, 1013, 0, 7188, 7189], [7182, 1013, 0, 7181, 72], [6192, 1013, 0, 6191, 47], [7211, 1013, 0, 7210, 77], [7219, 1013, 0, 7218, 79], [7128, 1013, 0, 7127, 66], [6146, 1013, 0, 6145, 37], [3166, 1003, 0, 3164, 3165], [4214, 1010, 0, 4213, 25], [4222, 1010, 0, 4221, 26], [4135, 1007, 0, 4133, 4134], [4181, 1007, 0, 4179, 4180], [3032, 1009, 0, 3030, 3031], [5075, 1001, 0, 5074, 31], [5100, 1001, 0, 5099, 36], [3162, 1001, 0, 3161, 16], [7071, 1013, 0, 7069, 7070], [6233, 1013, 0, 6231, 6232], [7026, 1013, 0, 7024, 7025], [7136, 1013, 0, 7134, 7135], [7159, 1013, 0, 7157, 7158], [7059, 1013, 0, 7057, 7058], [6140, 1013, 0, 6138, 6139], [7039, 1013, 0, 7037, 7038], [7215, 1013, 0, 7214, 78], [7107, 1013, 0, 7105, 7106], [7047, 1013, 0, 7046, 57], [6212, 1013, 0, 6211, 51], [4081, 1006, 0, 4079, 4080], [4100, 1006, 0, 4099, 22], [4126, 1007, 0, 4124, 4125], [3024, 1001, 0, 3023, 0], [3206, 1001, 0, 3205, 18], [7087, 1013, 0, 7085, 7086], [6216, 1013, 0, 6214, 6215], [6224, 1013, 0, 6222, 6223], [7124, 1013, 0, 7122, 7123], [7079, 1013, 0, 7077, 7078], [7043, 1013, 0, 7041, 7042], [7207, 1013, 0, 7206, 76], [7143, 1013, 0, 7141, 7142], [6208, 1013, 0, 6206, 6207], [6229, 1013, 0, 6227, 6228], [7178, 1013, 0, 7176, 7177], [6220, 1013, 0, 6218, 6219], [7116, 1013, 0, 7114, 7115], [4096, 1006, 0, 4094, 4095], [4209, 1010, 0, 4207, 4208], [4032, 1001, 0, 4030, 4031], [3188, 1001, 0, 3186, 3187], [3232, 1001, 0, 3230, 3231], [4044, 1001, 0, 4042, 4043], [4119, 1001, 0, 4117, 4118], [3149, 1001, 0, 3147, 3148], [3180, 1001, 0, 3178, 3179], [4150, 1001, 0, 4148, 4149], [4092, 1001, 0, 4090, 4091], [4011, 1001, 0, 4009, 4010], [3016, 1001, 0, 3014, 3015], [4000, 1001, 0, 3238, 3239], [4036, 1001, 0, 4034, 4035], [4007, 1001, 0, 4005, 4006], [4205, 1001, 0, 4204, 24], [4065, 1001, 0, 4063, 4064], [4131, 1001, 0, 4129, 4130], [3144, 1001, 0, 3142, 3143], [3184, 1001, 0, 3182, 3183], [4177, 1001, 0, 4175, 4176], [3154, 1001, 0, 3152, 3153], [4077, 1001, 0, 4075, 4076], [7203, 1013, 0, 7202, 75], [5056, 1001, 0, 5054, 5055], [5048, 1001, 0, 5046, 5047], [5035, 1001, 0, 5033, 5034], [4197, 1001, 0, 4195, 4196], [5065, 1001, 0, 5063, 5064], [8022, 1013, 0, 8020, 8021], [8018, 1013, 0, 8016, 8017], [8014, 1013, 0, 8012, 8013], [7195, 1013, 0, 7193, 7194], [8030, 1013, 0, 8028, 8029]]
def sgF (id : Nat) : Bool := match sgk[id]? with
  | some (kd, n) => decide (tbAt ((sgp.getD id []).getD 1 0) = some (Jvm.Cond.initialized (sgD id).1.cls)) && decide ((sgD id).1.cls ≠ "java/lang/invoke/MethodHandle" ∧ (sgD id).1.cls ≠ "java/lang/invoke/VarHandle" ∧ (parseMethodDescriptor (sgD id).1.desc).map (fun d => d.parameters.length) = some n) && (decide (kd ≠ 0) || decide (tbAt ((sgp.getD id []).getD 2 0) = some (Jvm.Cond.static (sgD id).1))) && (decide (kd ≠ 1) || decide (tbAt ((sgp.getD id []).getD 3 0) = some (Jvm.Cond.instanceMethod (sgD id).1) ∧ tbAt ((sgp.getD id []).getD 4 0) = some (Jvm.Cond.selects (sgD id).1.cls (sgD id).1 (sgD id).1)))
  | none => false
theorem sgk_len : sgk.length = 252 := by decide +kernel
set_option maxRecDepth 100000 in
theorem sg_f0 : (List.range' 0 16).all sgF = true := by decide +kernel
set_option maxRecDepth 100000 in
theorem sg_f1 : (List.range' 16 16).all sgF = true := by decide +kernel
set_option maxRecDepth 100000 in
theorem sg_f2 : (List.range' 32 16).all sgF = true := by decide +kernel
set_option maxRecDepth 100000 in
theorem sg_f3 : (List.range' 48 16).all sgF = true := by decide +kernel
set_option maxRecDepth 100000 in
theorem sg_f4 : (List.range' 64 16).all sgF = true := by decide +kernel
set_option maxRecDepth 100000 in
theorem sg_f5 : (List.range' 80 16).all sgF = true := by decide +kernel
set_option maxRecDepth 100000 in
theorem sg_f6 : (List.range' 96 16).all sgF = true := by decide +kernel
set_option maxRecDepth 100000 in
theorem sg_f7 : (List.range' 112 16).all sgF = true := by decide +kernel
set_option maxRecDepth 100000 in
theorem sg_f8 : (List.range' 128 16).all sgF = true := by decide +kernel
set_option maxRecDepth 100000 in
theorem sg_f9 : (List.range' 144 16).all sgF = true := by decide +kernel
set_option maxRecDepth 100000 in
theorem sg_f10 : (List.range' 160 16).all sgF = true := by decide +kernel
set_option maxRecDepth 100000 in
theorem sg_f11 : (List.range' 176 16).all sgF = true := by decide +kernel
set_option maxRecDepth 100000 in
theorem sg_f12 : (List.range' 192 16).all sgF = true := by decide +kernel
set_option maxRecDepth 100000 in
theorem sg_f13 : (List.range' 208 16).all sgF = true := by decide +kernel
set_option maxRecDepth 100000 in
theorem sg_f14 : (List.range' 224 16).all sgF = true := by decide +kernel
set_option maxRecDepth 100000 in
theorem sg_f15 : (List.range' 240 12).all sgF = true := by decide +kernel
theorem sg_facts : ∀ id, id < 252 → sgF id = true := by
  intro id hid
  by_cases h0 : id < 16
  · exact List.all_eq_true.mp sg_f0 id (List.mem_range'.mpr ⟨id - 0, by omega, by omega⟩)
  by_cases h1 : id < 32
  · exact List.all_eq_true.mp sg_f1 id (List.mem_range'.mpr ⟨id - 16, by omega, by omega⟩)
  by_cases h2 : id < 48
  · exact List.all_eq_true.mp sg_f2 id (List.mem_range'.mpr ⟨id - 32, by omega, by omega⟩)
  by_cases h3 : id < 64
  · exact List.all_eq_true.mp sg_f3 id (List.mem_range'.mpr ⟨id - 48, by omega, by omega⟩)
  by_cases h4 : id < 80
  · exact List.all_eq_true.mp sg_f4 id (List.mem_range'.mpr ⟨id - 64, by omega, by omega⟩)
  by_cases h5 : id < 96
  · exact List.all_eq_true.mp sg_f5 id (List.mem_range'.mpr ⟨id - 80, by omega, by omega⟩)
  by_cases h6 : id < 112
  · exact List.all_eq_true.mp sg_f6 id (List.mem_range'.mpr ⟨id - 96, by omega, by omega⟩)
  by_cases h7 : id < 128
  · exact List.all_eq_true.mp sg_f7 id (List.mem_range'.mpr ⟨id - 112, by omega, by omega⟩)
  by_cases h8 : id < 144
  · exact List.all_eq_true.mp sg_f8 id (List.mem_range'.mpr ⟨id - 128, by omega, by omega⟩)
  by_cases h9 : id < 160
  · exact List.all_eq_true.mp sg_f9 id (List.mem_range'.mpr ⟨id - 144, by omega, by omega⟩)
  by_cases h10 : id < 176
  · exact List.all_eq_true.mp sg_f10 id (List.mem_range'.mpr ⟨id - 160, by omega, by omega⟩)
  by_cases h11 : id < 192
  · exact List.all_eq_true.mp sg_f11 id (List.mem_range'.mpr ⟨id - 176, by omega, by omega⟩)
  by_cases h12 : id < 208
  · exact List.all_eq_true.mp sg_f12 id (List.mem_range'.mpr ⟨id - 192, by omega, by omega⟩)
  by_cases h13 : id < 224
  · exact List.all_eq_true.mp sg_f13 id (List.mem_range'.mpr ⟨id - 208, by omega, by omega⟩)
  by_cases h14 : id < 240
  · exact List.all_eq_true.mp sg_f14 id (List.mem_range'.mpr ⟨id - 224, by omega, by omega⟩)
  by_cases h15 : id < 252
  · exact List.all_eq_true.mp sg_f15 id (List.mem_range'.mpr ⟨id - 240, by omega, by omega⟩)
  omega
theorem sg_c0 : ∀ id, 0 ≤ id → id < 32 → Jvm.Cond.code (sgD id).1 (sgD id).2.1 (sgD id).2.2.1 (sgD id).2.2.2.1 ∈ tbG := by
  intro id h1 h2
  by_cases e : id = 0
  · subst e; exact tb_at (n := 5107) (w := Jvm.Cond.code yJ13_bitCount_95d88 cJ13_bitCount_95d88 2 (some .int)) rfl rfl
  by_cases e : id = 1
  · subst e; exact tb_at (n := 5068) (w := Jvm.Cond.code yJ6_bitCount_0f7a4 cJ6_bitCount_0f7a4 1 (some .int)) rfl rfl
  by_cases e : id = 2
  · subst e; exact tb_at (n := 1040) (w := Jvm.Cond.code yJ9_max_7cf53 cJ9_max_7cf53 2 (some .int)) rfl rfl
  by_cases e : id = 3
  · subst e; exact tb_at (n := 3090) (w := Jvm.Cond.code yJ9_min_7cf53 cJ9_min_7cf53 2 (some .int)) rfl rfl
  by_cases e : id = 4
  · subst e; exact tb_at (n := 3036) (w := Jvm.Cond.code yX0_clear cX0_clear 2 none) rfl rfl
  by_cases e : id = 5
  · subst e; exact tb_at (n := 3197) (w := Jvm.Cond.code yX0_countsBeside cX0_countsBeside 4 (some .boolean)) rfl rfl
  by_cases e : id = 6
  · subst e; exact tb_at (n := 3051) (w := Jvm.Cond.code yX0_isWithin cX0_isWithin 5 (some .boolean)) rfl rfl
  by_cases e : id = 7
  · subst e; exact tb_at (n := 3066) (w := Jvm.Cond.code yX0_lastIn cX0_lastIn 5 (some .int)) rfl rfl
  by_cases e : id = 8
  · subst e; exact tb_at (n := 3109) (w := Jvm.Cond.code yX0_nextOutside cX0_nextOutside 4 (some .int)) rfl rfl
  by_cases e : id = 9
  · subst e; exact tb_at (n := 4028) (w := Jvm.Cond.code yX0_partsAround cX0_partsAround 4 (some .int)) rfl rfl
  by_cases e : id = 10
  · subst e; exact tb_at (n := 4024) (w := Jvm.Cond.code yX0_rightIn cX0_rightIn 4 (some .int)) rfl rfl
  by_cases e : id = 11
  · subst e; exact tb_at (n := 3070) (w := Jvm.Cond.code yX0_takeOut cX0_takeOut 2 none) rfl rfl
  by_cases e : id = 12
  · subst e; exact tb_at (n := 3083) (w := Jvm.Cond.code yX0_wordsOf cX0_wordsOf 2 (some (.object "BookHouse$Row"))) rfl rfl
  by_cases e : id = 13
  · subst e; exact tb_at (n := 4003) (w := Jvm.Cond.code yX10_asBit cX10_asBit 1 (some .int)) rfl rfl
  by_cases e : id = 14
  · subst e; exact tb_at (n := 3058) (w := Jvm.Cond.code yX10_bit cX10_bit 1 (some .long)) rfl rfl
  by_cases e : id = 15
  · subst e; exact tb_at (n := 3220) (w := Jvm.Cond.code yX10_firm cX10_firm 3 (some .int)) rfl rfl
  by_cases e : id = 16
  · subst e; exact tb_at (n := 3039) (w := Jvm.Cond.code yX10_holds cX10_holds 3 (some .boolean)) rfl rfl
  by_cases e : id = 17
  · subst e; exact tb_at (n := 3228) (w := Jvm.Cond.code yX10_isChange cX10_isChange 2 (some .boolean)) rfl rfl
  by_cases e : id = 18
  · subst e; exact tb_at (n := 4201) (w := Jvm.Cond.code yX10_isEdition cX10_isEdition 2 (some .boolean)) rfl rfl
  by_cases e : id = 19
  · subst e; exact tb_at (n := 3000) (w := Jvm.Cond.code yX10_isHand cX10_isHand 1 (some .boolean)) rfl rfl
  by_cases e : id = 20
  · subst e; exact tb_at (n := 4061) (w := Jvm.Cond.code yX10_isStruckAndUsed cX10_isStruckAndUsed 2 (some .boolean)) rfl rfl
  by_cases e : id = 21
  · subst e; exact tb_at (n := 4122) (w := Jvm.Cond.code yX10_isTongue cX10_isTongue 1 (some .boolean)) rfl rfl
  by_cases e : id = 22
  · subst e; exact tb_at (n := 3003) (w := Jvm.Cond.code yX10_isWord cX10_isWord 1 (some .boolean)) rfl rfl
  by_cases e : id = 23
  · subst e; exact tb_at (n := 3028) (w := Jvm.Cond.code yX10_setOf cX10_setOf 2 (some .long)) rfl rfl
  by_cases e : id = 24
  · subst e; exact tb_at (n := 7083) (w := Jvm.Cond.code yX11_areAlike cX11_areAlike 3 (some .boolean)) rfl rfl
  by_cases e : id = 25
  · subst e; exact tb_at (n := 6169) (w := Jvm.Cond.code yX11_canGo cX11_canGo 2 (some .boolean)) rfl rfl
  by_cases e : id = 26
  · subst e; exact tb_at (n := 7063) (w := Jvm.Cond.code yX11_childrenOf cX11_childrenOf 4 (some .int)) rfl rfl
  by_cases e : id = 27
  · subst e; exact tb_at (n := 6158) (w := Jvm.Cond.code yX11_clear cX11_clear 2 none) rfl rfl
  by_cases e : id = 28
  · subst e; exact tb_at (n := 7067) (w := Jvm.Cond.code yX11_depth cX11_depth 4 (some .int)) rfl rfl
  by_cases e : id = 29
  · subst e; exact tb_at (n := 7230) (w := Jvm.Cond.code yX11_digitsOf cX11_digitsOf 1 (some .int)) rfl rfl
  by_cases e : id = 30
  · subst e; exact tb_at (n := 6176) (w := Jvm.Cond.code yX11_holder cX11_holder 1 (some .int)) rfl rfl
  by_cases e : id = 31
  · subst e; exact tb_at (n := 6135) (w := Jvm.Cond.code yX11_in cX11_in 6 (some .boolean)) rfl rfl
  omega
theorem sg_c1 : ∀ id, 32 ≤ id → id < 64 → Jvm.Cond.code (sgD id).1 (sgD id).2.1 (sgD id).2.2.1 (sgD id).2.2.2.1 ∈ tbG := by
  intro id h1 h2
  by_cases e : id = 32
  · subst e; exact tb_at (n := 6154) (w := Jvm.Cond.code yX11_isAhead cX11_isAhead 3 (some .boolean)) rfl rfl
  by_cases e : id = 33
  · subst e; exact tb_at (n := 8010) (w := Jvm.Cond.code yX11_isAsWas cX11_isAsWas 4 (some .boolean)) rfl rfl
  by_cases e : id = 34
  · subst e; exact tb_at (n := 8034) (w := Jvm.Cond.code yX11_isElsewhere cX11_isElsewhere 2 (some .boolean)) rfl rfl
  by_cases e : id = 35
  · subst e; exact tb_at (n := 6161) (w := Jvm.Cond.code yX11_isIn cX11_isIn 3 (some .boolean)) rfl rfl
  by_cases e : id = 36
  · subst e; exact tb_at (n := 8026) (w := Jvm.Cond.code yX11_isSaidOn cX11_isSaidOn 8 (some .boolean)) rfl rfl
  by_cases e : id = 37
  · subst e; exact tb_at (n := 8038) (w := Jvm.Cond.code yX11_isSaidOtherwise cX11_isSaidOtherwise 4 (some .boolean)) rfl rfl
  by_cases e : id = 38
  · subst e; exact tb_at (n := 7055) (w := Jvm.Cond.code yX11_isSeen cX11_isSeen 3 (some .boolean)) rfl rfl
  by_cases e : id = 39
  · subst e; exact tb_at (n := 6180) (w := Jvm.Cond.code yX11_isWithin cX11_isWithin 4 (some .boolean)) rfl rfl
  by_cases e : id = 40
  · subst e; exact tb_at (n := 7166) (w := Jvm.Cond.code yX11_lesser cX11_lesser 2 (some .int)) rfl rfl
  by_cases e : id = 41
  · subst e; exact tb_at (n := 7186) (w := Jvm.Cond.code yX11_oftenIn cX11_oftenIn 6 (some .int)) rfl rfl
  by_cases e : id = 42
  · subst e; exact tb_at (n := 7001) (w := Jvm.Cond.code yX11_outdoes cX11_outdoes 4 (some .boolean)) rfl rfl
  by_cases e : id = 43
  · subst e; exact tb_at (n := 7151) (w := Jvm.Cond.code yX11_pairOf cX11_pairOf 5 (some .int)) rfl rfl
  by_cases e : id = 44
  · subst e; exact tb_at (n := 6188) (w := Jvm.Cond.code yX11_reword cX11_reword 8 none) rfl rfl
  by_cases e : id = 45
  · subst e; exact tb_at (n := 8006) (w := Jvm.Cond.code yX11_setLines cX11_setLines 3 (some .int)) rfl rfl
  by_cases e : id = 46
  · subst e; exact tb_at (n := 7035) (w := Jvm.Cond.code yX11_setOf cX11_setOf 2 (some .long)) rfl rfl
  by_cases e : id = 47
  · subst e; exact tb_at (n := 7238) (w := Jvm.Cond.code yX11_widthOf cX11_widthOf 5 (some .int)) rfl rfl
  by_cases e : id = 48
  · subst e; exact tb_at (n := 5006) (w := Jvm.Cond.code yX1_breakFrom cX1_breakFrom 6 none) rfl rfl
  by_cases e : id = 49
  · subst e; exact tb_at (n := 4238) (w := Jvm.Cond.code yX1_fill cX1_fill 4 none) rfl rfl
  by_cases e : id = 50
  · subst e; exact tb_at (n := 5019) (w := Jvm.Cond.code yX1_squares cX1_squares 1 (some .int)) rfl rfl
  by_cases e : id = 51
  · subst e; exact tb_at (n := 4073) (w := Jvm.Cond.code yX2_addRule cX2_addRule 3 none) rfl rfl
  by_cases e : id = 52
  · subst e; exact tb_at (n := 4115) (w := Jvm.Cond.code yX3_join cX3_join 5 none) rfl rfl
  by_cases e : id = 53
  · subst e; exact tb_at (n := 4040) (w := Jvm.Cond.code yX3_standsAt cX3_standsAt 5 (some .boolean)) rfl rfl
  by_cases e : id = 54
  · subst e; exact tb_at (n := 3139) (w := Jvm.Cond.code yX4_isAhead cX4_isAhead 3 (some .boolean)) rfl rfl
  by_cases e : id = 55
  · subst e; exact tb_at (n := 3020) (w := Jvm.Cond.code yX4_isFull cX4_isFull 1 (some .boolean)) rfl rfl
  by_cases e : id = 56
  · subst e; exact tb_at (n := 4226) (w := Jvm.Cond.code yX5_begin cX5_begin 2 none) rfl rfl
  by_cases e : id = 57
  · subst e; exact tb_at (n := 5031) (w := Jvm.Cond.code yX5_pagesInAll cX5_pagesInAll 1 (some .int)) rfl rfl
  by_cases e : id = 58
  · subst e; exact tb_at (n := 5015) (w := Jvm.Cond.code yX5_take cX5_take 2 (some .int)) rfl rfl
  by_cases e : id = 59
  · subst e; exact tb_at (n := 5011) (w := Jvm.Cond.code yX5_whereOneLineWouldCome cX5_whereOneLineWouldCome 1 (some .int)) rfl rfl
  by_cases e : id = 60
  · subst e; exact tb_at (n := 3170) (w := Jvm.Cond.code yX6_clear cX6_clear 1 none) rfl rfl
  by_cases e : id = 61
  · subst e; exact tb_at (n := 4185) (w := Jvm.Cond.code yX6_howOften cX6_howOften 4 (some .int)) rfl rfl
  by_cases e : id = 62
  · subst e; exact tb_at (n := 3007) (w := Jvm.Cond.code yX6_isFull cX6_isFull 1 (some .boolean)) rfl rfl
  by_cases e : id = 63
  · subst e; exact tb_at (n := 4234) (w := Jvm.Cond.code yX7_digitsOf cX7_digitsOf 4 (some .int)) rfl rfl
  omega
theorem sg_c2 : ∀ id, 64 ≤ id → id < 96 → Jvm.Cond.code (sgD id).1 (sgD id).2.1 (sgD id).2.2.1 (sgD id).2.2.2.1 ∈ tbG := by
  intro id h1 h2
  by_cases e : id = 64
  · subst e; exact tb_at (n := 5027) (w := Jvm.Cond.code yX7_isOtherThanBefore cX7_isOtherThanBefore 3 (some .boolean)) rfl rfl
  by_cases e : id = 65
  · subst e; exact tb_at (n := 5040) (w := Jvm.Cond.code yX7_lastPageOf cX7_lastPageOf 2 (some .int)) rfl rfl
  by_cases e : id = 66
  · subst e; exact tb_at (n := 5023) (w := Jvm.Cond.code yX7_linesOf cX7_linesOf 2 (some .int)) rfl rfl
  by_cases e : id = 67
  · subst e; exact tb_at (n := 5044) (w := Jvm.Cond.code yX7_numberOf cX7_numberOf 2 (some .int)) rfl rfl
  by_cases e : id = 68
  · subst e; exact tb_at (n := 5052) (w := Jvm.Cond.code yX7_wordsInLine cX7_wordsInLine 3 (some .int)) rfl rfl
  by_cases e : id = 69
  · subst e; exact tb_at (n := 4193) (w := Jvm.Cond.code yX8_add cX8_add 6 none) rfl rfl
  by_cases e : id = 70
  · subst e; exact tb_at (n := 4173) (w := Jvm.Cond.code yX9_addTerm cX9_addTerm 4 none) rfl rfl
  by_cases e : id = 71
  · subst e; exact tb_at (n := 4145) (w := Jvm.Cond.code yX9_bookSide cX9_bookSide 2 (some (.object "BookHouse$Row"))) rfl rfl
  by_cases e : id = 72
  · subst e; exact tb_at (n := 2017) (w := Jvm.Cond.code yX0_init cX0_init 2 none) rfl rfl
  by_cases e : id = 73
  · subst e; exact tb_at (n := 3062) (w := Jvm.Cond.code yX0_insert cX0_insert 5 none) rfl rfl
  by_cases e : id = 74
  · subst e; exact tb_at (n := 4020) (w := Jvm.Cond.code yX0_isSeen cX0_isSeen 2 (some .boolean)) rfl rfl
  by_cases e : id = 75
  · subst e; exact tb_at (n := 3105) (w := Jvm.Cond.code yX0_isStruck cX0_isStruck 2 (some .boolean)) rfl rfl
  by_cases e : id = 76
  · subst e; exact tb_at (n := 3047) (w := Jvm.Cond.code yX0_isThere cX0_isThere 2 (some .boolean)) rfl rfl
  by_cases e : id = 77
  · subst e; exact tb_at (n := 3074) (w := Jvm.Cond.code yX0_raiseUnlessFirm cX0_raiseUnlessFirm 2 none) rfl rfl
  by_cases e : id = 78
  · subst e; exact tb_at (n := 3224) (w := Jvm.Cond.code yX10_change cX10_change 3 (some .int)) rfl rfl
  by_cases e : id = 79
  · subst e; exact tb_at (n := 4111) (w := Jvm.Cond.code yX10_fold cX10_fold 3 (some .int)) rfl rfl
  by_cases e : id = 80
  · subst e; exact tb_at (n := 3211) (w := Jvm.Cond.code yX10_give cX10_give 9 (some .int)) rfl rfl
  by_cases e : id = 81
  · subst e; exact tb_at (n := 4058) (w := Jvm.Cond.code yX10_isClash cX10_isClash 3 (some .boolean)) rfl rfl
  by_cases e : id = 82
  · subst e; exact tb_at (n := 4015) (w := Jvm.Cond.code yX10_isPiece cX10_isPiece 2 (some .boolean)) rfl rfl
  by_cases e : id = 83
  · subst e; exact tb_at (n := 3236) (w := Jvm.Cond.code yX10_isSource cX10_isSource 2 (some .boolean)) rfl rfl
  by_cases e : id = 84
  · subst e; exact tb_at (n := 3216) (w := Jvm.Cond.code yX10_keep cX10_keep 2 (some .int)) rfl rfl
  by_cases e : id = 85
  · subst e; exact tb_at (n := 4165) (w := Jvm.Cond.code yX10_pair cX10_pair 5 (some .int)) rfl rfl
  by_cases e : id = 86
  · subst e; exact tb_at (n := 4169) (w := Jvm.Cond.code yX10_term cX10_term 4 (some .int)) rfl rfl
  by_cases e : id = 87
  · subst e; exact tb_at (n := 5104) (w := Jvm.Cond.code yX10_told cX10_told 2 (some .int)) rfl rfl
  by_cases e : id = 88
  · subst e; exact tb_at (n := 7155) (w := Jvm.Cond.code yX11_agrees cX11_agrees 5 (some .boolean)) rfl rfl
  by_cases e : id = 89
  · subst e; exact tb_at (n := 7022) (w := Jvm.Cond.code yX11_change cX11_change 3 (some .int)) rfl rfl
  by_cases e : id = 90
  · subst e; exact tb_at (n := 7163) (w := Jvm.Cond.code yX11_costOf cX11_costOf 9 (some .int)) rfl rfl
  by_cases e : id = 91
  · subst e; exact tb_at (n := 7018) (w := Jvm.Cond.code yX11_firm cX11_firm 3 (some .int)) rfl rfl
  by_cases e : id = 92
  · subst e; exact tb_at (n := 7075) (w := Jvm.Cond.code yX11_fold cX11_fold 6 (some .int)) rfl rfl
  by_cases e : id = 93
  · subst e; exact tb_at (n := 7120) (w := Jvm.Cond.code yX11_gatherText cX11_gatherText 5 none) rfl rfl
  by_cases e : id = 94
  · subst e; exact tb_at (n := 7103) (w := Jvm.Cond.code yX11_hasKind cX11_hasKind 6 (some .boolean)) rfl rfl
  by_cases e : id = 95
  · subst e; exact tb_at (n := 6237) (w := Jvm.Cond.code yX11_hasSay cX11_hasSay 6 (some .boolean)) rfl rfl
  omega
theorem sg_c3 : ∀ id, 96 ≤ id → id < 128 → Jvm.Cond.code (sgD id).1 (sgD id).2.1 (sgD id).2.2.1 (sgD id).2.2.2.1 ∈ tbG := by
  intro id h1 h2
  by_cases e : id = 96
  · subst e; exact tb_at (n := 5115) (w := Jvm.Cond.code yX11_init cX11_init 2 none) rfl rfl
  by_cases e : id = 97
  · subst e; exact tb_at (n := 7199) (w := Jvm.Cond.code yX11_isEdition cX11_isEdition 2 (some .boolean)) rfl rfl
  by_cases e : id = 98
  · subst e; exact tb_at (n := 6131) (w := Jvm.Cond.code yX11_isHand cX11_isHand 1 (some .boolean)) rfl rfl
  by_cases e : id = 99
  · subst e; exact tb_at (n := 6200) (w := Jvm.Cond.code yX11_isPiece cX11_isPiece 2 (some .boolean)) rfl rfl
  by_cases e : id = 100
  · subst e; exact tb_at (n := 7139) (w := Jvm.Cond.code yX11_isTongue cX11_isTongue 1 (some .boolean)) rfl rfl
  by_cases e : id = 101
  · subst e; exact tb_at (n := 8002) (w := Jvm.Cond.code yX11_leftOf cX11_leftOf 5 (some .int)) rfl rfl
  by_cases e : id = 102
  · subst e; exact tb_at (n := 6204) (w := Jvm.Cond.code yX11_make cX11_make 9 (some .int)) rfl rfl
  by_cases e : id = 103
  · subst e; exact tb_at (n := 8046) (w := Jvm.Cond.code yX11_ones cX11_ones 4 (some .int)) rfl rfl
  by_cases e : id = 104
  · subst e; exact tb_at (n := 7170) (w := Jvm.Cond.code yX11_pair cX11_pair 4 (some .int)) rfl rfl
  by_cases e : id = 105
  · subst e; exact tb_at (n := 6173) (w := Jvm.Cond.code yX11_putIn cX11_putIn 6 none) rfl rfl
  by_cases e : id = 106
  · subst e; exact tb_at (n := 7051) (w := Jvm.Cond.code yX11_readAll cX11_readAll 3 none) rfl rfl
  by_cases e : id = 107
  · subst e; exact tb_at (n := 6150) (w := Jvm.Cond.code yX11_sort cX11_sort 3 none) rfl rfl
  by_cases e : id = 108
  · subst e; exact tb_at (n := 6184) (w := Jvm.Cond.code yX11_takeOut cX11_takeOut 2 none) rfl rfl
  by_cases e : id = 109
  · subst e; exact tb_at (n := 7227) (w := Jvm.Cond.code yX11_tells cX11_tells 2 (some .boolean)) rfl rfl
  by_cases e : id = 110
  · subst e; exact tb_at (n := 5002) (w := Jvm.Cond.code yX1_breakUp cX1_breakUp 3 none) rfl rfl
  by_cases e : id = 111
  · subst e; exact tb_at (n := 2094) (w := Jvm.Cond.code yX1_init cX1_init 1 none) rfl rfl
  by_cases e : id = 112
  · subst e; exact tb_at (n := 4106) (w := Jvm.Cond.code yX3_areRowsAlike cX3_areRowsAlike 3 (some .boolean)) rfl rfl
  by_cases e : id = 113
  · subst e; exact tb_at (n := 4158) (w := Jvm.Cond.code yX3_costOf cX3_costOf 7 (some .int)) rfl rfl
  by_cases e : id = 114
  · subst e; exact tb_at (n := 1127) (w := Jvm.Cond.code yX3_init cX3_init 2 none) rfl rfl
  by_cases e : id = 115
  · subst e; exact tb_at (n := 3201) (w := Jvm.Cond.code yX4_aheadOf cX4_aheadOf 7 (some .long)) rfl rfl
  by_cases e : id = 116
  · subst e; exact tb_at (n := 3135) (w := Jvm.Cond.code yX4_fileByStamp cX4_fileByStamp 3 none) rfl rfl
  by_cases e : id = 117
  · subst e; exact tb_at (n := 3129) (w := Jvm.Cond.code yX4_greatestStamp cX4_greatestStamp 5 (some .int)) rfl rfl
  by_cases e : id = 118
  · subst e; exact tb_at (n := 4055) (w := Jvm.Cond.code yX4_kindsUpon cX4_kindsUpon 6 (some .int)) rfl rfl
  by_cases e : id = 119
  · subst e; exact tb_at (n := 2115) (w := Jvm.Cond.code yX5_init cX5_init 1 none) rfl rfl
  by_cases e : id = 120
  · subst e; exact tb_at (n := 3011) (w := Jvm.Cond.code yX6_add cX6_add 2 none) rfl rfl
  by_cases e : id = 121
  · subst e; exact tb_at (n := 1036) (w := Jvm.Cond.code yX6_init cX6_init 2 none) rfl rfl
  by_cases e : id = 122
  · subst e; exact tb_at (n := 3087) (w := Jvm.Cond.code yX6_sameFromFirst cX6_sameFromFirst 4 (some .int)) rfl rfl
  by_cases e : id = 123
  · subst e; exact tb_at (n := 3094) (w := Jvm.Cond.code yX6_sameFromLast cX6_sameFromLast 5 (some .int)) rfl rfl
  by_cases e : id = 124
  · subst e; exact tb_at (n := 5060) (w := Jvm.Cond.code yX7_isSaidInLine cX7_isSaidInLine 7 (some .boolean)) rfl rfl
  by_cases e : id = 125
  · subst e; exact tb_at (n := 1230) (w := Jvm.Cond.code yX8_init cX8_init 1 none) rfl rfl
  by_cases e : id = 126
  · subst e; exact tb_at (n := 3193) (w := Jvm.Cond.code yX0_hasSay cX0_hasSay 5 (some .boolean)) rfl rfl
  by_cases e : id = 127
  · subst e; exact tb_at (n := 3113) (w := Jvm.Cond.code yX0_isPlace cX0_isPlace 2 (some .boolean)) rfl rfl
  omega
theorem sg_c4 : ∀ id, 128 ≤ id → id < 160 → Jvm.Cond.code (sgD id).1 (sgD id).2.1 (sgD id).2.2.1 (sgD id).2.2.2.1 ∈ tbG := by
  intro id h1 h2
  by_cases e : id = 128
  · subst e; exact tb_at (n := 3158) (w := Jvm.Cond.code yX0_isSentence cX0_isSentence 2 (some .boolean)) rfl rfl
  by_cases e : id = 129
  · subst e; exact tb_at (n := 3117) (w := Jvm.Cond.code yX0_isToStandBehind cX0_isToStandBehind 2 (some .boolean)) rfl rfl
  by_cases e : id = 130
  · subst e; exact tb_at (n := 3101) (w := Jvm.Cond.code yX0_readThrough cX0_readThrough 4 none) rfl rfl
  by_cases e : id = 131
  · subst e; exact tb_at (n := 3079) (w := Jvm.Cond.code yX0_speak cX0_speak 9 none) rfl rfl
  by_cases e : id = 132
  · subst e; exact tb_at (n := 3043) (w := Jvm.Cond.code yX0_whatComesOf cX0_whatComesOf 5 (some .int)) rfl rfl
  by_cases e : id = 133
  · subst e; exact tb_at (n := 4051) (w := Jvm.Cond.code yX10_clash cX10_clash 13 (some .int)) rfl rfl
  by_cases e : id = 134
  · subst e; exact tb_at (n := 4189) (w := Jvm.Cond.code yX10_edition cX10_edition 5 (some .int)) rfl rfl
  by_cases e : id = 135
  · subst e; exact tb_at (n := 5083) (w := Jvm.Cond.code yX10_isSeenInBoth cX10_isSeenInBoth 2 (some .boolean)) rfl rfl
  by_cases e : id = 136
  · subst e; exact tb_at (n := 4069) (w := Jvm.Cond.code yX10_rule cX10_rule 3 (some .int)) rfl rfl
  by_cases e : id = 137
  · subst e; exact tb_at (n := 2237) (w := Jvm.Cond.code yX10_word cX10_word 3 (some .int)) rfl rfl
  by_cases e : id = 138
  · subst e; exact tb_at (n := 6165) (w := Jvm.Cond.code yX11_apply cX11_apply 3 (some .int)) rfl rfl
  by_cases e : id = 139
  · subst e; exact tb_at (n := 7234) (w := Jvm.Cond.code yX11_breakLines cX11_breakLines 8 none) rfl rfl
  by_cases e : id = 140
  · subst e; exact tb_at (n := 7099) (w := Jvm.Cond.code yX11_doClash cX11_doClash 9 (some .boolean)) rfl rfl
  by_cases e : id = 141
  · subst e; exact tb_at (n := 7009) (w := Jvm.Cond.code yX11_give cX11_give 6 (some .int)) rfl rfl
  by_cases e : id = 142
  · subst e; exact tb_at (n := 7132) (w := Jvm.Cond.code yX11_isMet cX11_isMet 6 (some .boolean)) rfl rfl
  by_cases e : id = 143
  · subst e; exact tb_at (n := 7030) (w := Jvm.Cond.code yX11_isSource cX11_isSource 2 (some .boolean)) rfl rfl
  by_cases e : id = 144
  · subst e; exact tb_at (n := 7147) (w := Jvm.Cond.code yX11_isStale cX11_isStale 4 (some .boolean)) rfl rfl
  by_cases e : id = 145
  · subst e; exact tb_at (n := 6196) (w := Jvm.Cond.code yX11_isThereNow cX11_isThereNow 2 (some .boolean)) rfl rfl
  by_cases e : id = 146
  · subst e; exact tb_at (n := 7014) (w := Jvm.Cond.code yX11_keep cX11_keep 2 (some .int)) rfl rfl
  by_cases e : id = 147
  · subst e; exact tb_at (n := 7223) (w := Jvm.Cond.code yX11_layWide cX11_layWide 5 none) rfl rfl
  by_cases e : id = 148
  · subst e; exact tb_at (n := 7005) (w := Jvm.Cond.code yX11_makeWords cX11_makeWords 5 (some .int)) rfl rfl
  by_cases e : id = 149
  · subst e; exact tb_at (n := 7112) (w := Jvm.Cond.code yX11_rule cX11_rule 3 (some .int)) rfl rfl
  by_cases e : id = 150
  · subst e; exact tb_at (n := 7174) (w := Jvm.Cond.code yX11_term cX11_term 4 (some .int)) rfl rfl
  by_cases e : id = 151
  · subst e; exact tb_at (n := 8042) (w := Jvm.Cond.code yX11_told cX11_told 2 (some .int)) rfl rfl
  by_cases e : id = 152
  · subst e; exact tb_at (n := 6128) (w := Jvm.Cond.code yX11_word cX11_word 3 (some .int)) rfl rfl
  by_cases e : id = 153
  · subst e; exact tb_at (n := 1145) (w := Jvm.Cond.code yX2_init cX2_init 3 none) rfl rfl
  by_cases e : id = 154
  · subst e; exact tb_at (n := 3125) (w := Jvm.Cond.code yX4_add cX4_add 6 (some .int)) rfl rfl
  by_cases e : id = 155
  · subst e; exact tb_at (n := 1029) (w := Jvm.Cond.code yX4_init cX4_init 2 none) rfl rfl
  by_cases e : id = 156
  · subst e; exact tb_at (n := 3174) (w := Jvm.Cond.code yX6_append cX6_append 3 none) rfl rfl
  by_cases e : id = 157
  · subst e; exact tb_at (n := 5091) (w := Jvm.Cond.code yX6_isSameAs cX6_isSameAs 2 (some .boolean)) rfl rfl
  by_cases e : id = 158
  · subst e; exact tb_at (n := 2088) (w := Jvm.Cond.code yX7_init cX7_init 5 none) rfl rfl
  by_cases e : id = 159
  · subst e; exact tb_at (n := 4230) (w := Jvm.Cond.code yX7_setSentence cX7_setSentence 7 none) rfl rfl
  omega
theorem sg_c5 : ∀ id, 160 ≤ id → id < 192 → Jvm.Cond.code (sgD id).1 (sgD id).2.1 (sgD id).2.2.1 (sgD id).2.2.2.1 ∈ tbG := by
  intro id h1 h2
  by_cases e : id = 160
  · subst e; exact tb_at (n := 1183) (w := Jvm.Cond.code yX9_init cX9_init 4 none) rfl rfl
  by_cases e : id = 161
  · subst e; exact tb_at (n := 4141) (w := Jvm.Cond.code yX9_leading cX9_leading 5 (some .int)) rfl rfl
  by_cases e : id = 162
  · subst e; exact tb_at (n := 4154) (w := Jvm.Cond.code yX9_nearest cX9_nearest 7 (some .int)) rfl rfl
  by_cases e : id = 163
  · subst e; exact tb_at (n := 3055) (w := Jvm.Cond.code yX0_bringAbout cX0_bringAbout 3 none) rfl rfl
  by_cases e : id = 164
  · subst e; exact tb_at (n := 4085) (w := Jvm.Cond.code yX0_gather cX0_gather 4 none) rfl rfl
  by_cases e : id = 165
  · subst e; exact tb_at (n := 5096) (w := Jvm.Cond.code yX10_countOtherNumbers cX10_countOtherNumbers 3 (some .int)) rfl rfl
  by_cases e : id = 166
  · subst e; exact tb_at (n := 5087) (w := Jvm.Cond.code yX10_countSaidOtherwise cX10_countSaidOtherwise 3 (some .int)) rfl rfl
  by_cases e : id = 167
  · subst e; exact tb_at (n := 1021) (w := Jvm.Cond.code yX10_init cX10_init 2 none) rfl rfl
  by_cases e : id = 168
  · subst e; exact tb_at (n := 5079) (w := Jvm.Cond.code yX10_isElsewhere cX10_isElsewhere 2 (some .boolean)) rfl rfl
  by_cases e : id = 169
  · subst e; exact tb_at (n := 3121) (w := Jvm.Cond.code yX10_make cX10_make 7 (some .int)) rfl rfl
  by_cases e : id = 170
  · subst e; exact tb_at (n := 7094) (w := Jvm.Cond.code yX11_clash cX11_clash 9 (some .int)) rfl rfl
  by_cases e : id = 171
  · subst e; exact tb_at (n := 7190) (w := Jvm.Cond.code yX11_edition cX11_edition 5 (some .int)) rfl rfl
  by_cases e : id = 172
  · subst e; exact tb_at (n := 7182) (w := Jvm.Cond.code yX11_isUnlike cX11_isUnlike 6 (some .boolean)) rfl rfl
  by_cases e : id = 173
  · subst e; exact tb_at (n := 6192) (w := Jvm.Cond.code yX11_mayGoUnder cX11_mayGoUnder 2 (some .boolean)) rfl rfl
  by_cases e : id = 174
  · subst e; exact tb_at (n := 7211) (w := Jvm.Cond.code yX11_saySheet cX11_saySheet 9 none) rfl rfl
  by_cases e : id = 175
  · subst e; exact tb_at (n := 7219) (w := Jvm.Cond.code yX11_setSentence cX11_setSentence 8 none) rfl rfl
  by_cases e : id = 176
  · subst e; exact tb_at (n := 7128) (w := Jvm.Cond.code yX11_unmet cX11_unmet 3 (some .int)) rfl rfl
  by_cases e : id = 177
  · subst e; exact tb_at (n := 6146) (w := Jvm.Cond.code yX11_work cX11_work 6 none) rfl rfl
  by_cases e : id = 178
  · subst e; exact tb_at (n := 3166) (w := Jvm.Cond.code yX6_copy cX6_copy 2 none) rfl rfl
  by_cases e : id = 179
  · subst e; exact tb_at (n := 4214) (w := Jvm.Cond.code yX7_prepare cX7_prepare 4 none) rfl rfl
  by_cases e : id = 180
  · subst e; exact tb_at (n := 4222) (w := Jvm.Cond.code yX7_setAll cX7_setAll 5 none) rfl rfl
  by_cases e : id = 181
  · subst e; exact tb_at (n := 4135) (w := Jvm.Cond.code yX9_isStale cX9_isStale 4 (some .boolean)) rfl rfl
  by_cases e : id = 182
  · subst e; exact tb_at (n := 4181) (w := Jvm.Cond.code yX9_isUnlike cX9_isUnlike 6 (some .boolean)) rfl rfl
  by_cases e : id = 183
  · subst e; exact tb_at (n := 3032) (w := Jvm.Cond.code yX0_work cX0_work 6 none) rfl rfl
  by_cases e : id = 184
  · subst e; exact tb_at (n := 5075) (w := Jvm.Cond.code yX10_countElsewhere cX10_countElsewhere 3 (some .int)) rfl rfl
  by_cases e : id = 185
  · subst e; exact tb_at (n := 5100) (w := Jvm.Cond.code yX10_firstPageElsewhere cX10_firstPageElsewhere 2 (some .int)) rfl rfl
  by_cases e : id = 186
  · subst e; exact tb_at (n := 3162) (w := Jvm.Cond.code yX10_makeWords cX10_makeWords 5 (some .int)) rfl rfl
  by_cases e : id = 187
  · subst e; exact tb_at (n := 7071) (w := Jvm.Cond.code yX11_at cX11_at 5 (some .int)) rfl rfl
  by_cases e : id = 188
  · subst e; exact tb_at (n := 6233) (w := Jvm.Cond.code yX11_back cX11_back 4 (some .int)) rfl rfl
  by_cases e : id = 189
  · subst e; exact tb_at (n := 7026) (w := Jvm.Cond.code yX11_came cX11_came 3 (some .int)) rfl rfl
  by_cases e : id = 190
  · subst e; exact tb_at (n := 7136) (w := Jvm.Cond.code yX11_lead cX11_lead 6 (some .int)) rfl rfl
  by_cases e : id = 191
  · subst e; exact tb_at (n := 7159) (w := Jvm.Cond.code yX11_offer cX11_offer 9 (some .int)) rfl rfl
  omega
theorem sg_c6 : ∀ id, 192 ≤ id → id < 224 → Jvm.Cond.code (sgD id).1 (sgD id).2.1 (sgD id).2.2.1 (sgD id).2.2.2.1 ∈ tbG := by
  intro id h1 h2
  by_cases e : id = 192
  · subst e; exact tb_at (n := 7059) (w := Jvm.Cond.code yX11_piece cX11_piece 4 (some .int)) rfl rfl
  by_cases e : id = 193
  · subst e; exact tb_at (n := 6140) (w := Jvm.Cond.code yX11_put cX11_put 7 (some .int)) rfl rfl
  by_cases e : id = 194
  · subst e; exact tb_at (n := 7039) (w := Jvm.Cond.code yX11_say cX11_say 3 (some .int)) rfl rfl
  by_cases e : id = 195
  · subst e; exact tb_at (n := 7215) (w := Jvm.Cond.code yX11_setRound cX11_setRound 7 none) rfl rfl
  by_cases e : id = 196
  · subst e; exact tb_at (n := 7107) (w := Jvm.Cond.code yX11_settle cX11_settle 7 (some .int)) rfl rfl
  by_cases e : id = 197
  · subst e; exact tb_at (n := 7047) (w := Jvm.Cond.code yX11_unroll cX11_unroll 2 none) rfl rfl
  by_cases e : id = 198
  · subst e; exact tb_at (n := 6212) (w := Jvm.Cond.code yX11_whyNot cX11_whyNot 4 (some .int)) rfl rfl
  by_cases e : id = 199
  · subst e; exact tb_at (n := 4081) (w := Jvm.Cond.code yX2_addYes cX2_addYes 4 none) rfl rfl
  by_cases e : id = 200
  · subst e; exact tb_at (n := 4100) (w := Jvm.Cond.code yX2_isMet cX2_isMet 5 (some .boolean)) rfl rfl
  by_cases e : id = 201
  · subst e; exact tb_at (n := 4126) (w := Jvm.Cond.code yX9_addPair cX9_addPair 5 none) rfl rfl
  by_cases e : id = 202
  · subst e; exact tb_at (n := 3024) (w := Jvm.Cond.code yX10_bookOf cX10_bookOf 2 (some (.object "BookHouse$Book"))) rfl rfl
  by_cases e : id = 203
  · subst e; exact tb_at (n := 3206) (w := Jvm.Cond.code yX10_makeAsIn cX10_makeAsIn 5 (some .int)) rfl rfl
  by_cases e : id = 204
  · subst e; exact tb_at (n := 7087) (w := Jvm.Cond.code yX11_digest cX11_digest 7 (some .long)) rfl rfl
  by_cases e : id = 205
  · subst e; exact tb_at (n := 6216) (w := Jvm.Cond.code yX11_move cX11_move 7 (some .int)) rfl rfl
  by_cases e : id = 206
  · subst e; exact tb_at (n := 6224) (w := Jvm.Cond.code yX11_note cX11_note 5 (some .int)) rfl rfl
  by_cases e : id = 207
  · subst e; exact tb_at (n := 7124) (w := Jvm.Cond.code yX11_open cX11_open 2 (some .int)) rfl rfl
  by_cases e : id = 208
  · subst e; exact tb_at (n := 7079) (w := Jvm.Cond.code yX11_seek cX11_seek 11 (some .int)) rfl rfl
  by_cases e : id = 209
  · subst e; exact tb_at (n := 7043) (w := Jvm.Cond.code yX11_seen cX11_seen 3 (some .int)) rfl rfl
  by_cases e : id = 210
  · subst e; exact tb_at (n := 7207) (w := Jvm.Cond.code yX11_setSheet cX11_setSheet 10 none) rfl rfl
  by_cases e : id = 211
  · subst e; exact tb_at (n := 7143) (w := Jvm.Cond.code yX11_stale cX11_stale 6 (some .int)) rfl rfl
  by_cases e : id = 212
  · subst e; exact tb_at (n := 6208) (w := Jvm.Cond.code yX11_strike cX11_strike 4 (some .int)) rfl rfl
  by_cases e : id = 213
  · subst e; exact tb_at (n := 6229) (w := Jvm.Cond.code yX11_tie cX11_tie 5 (some .int)) rfl rfl
  by_cases e : id = 214
  · subst e; exact tb_at (n := 7178) (w := Jvm.Cond.code yX11_unlike cX11_unlike 6 (some .int)) rfl rfl
  by_cases e : id = 215
  · subst e; exact tb_at (n := 6220) (w := Jvm.Cond.code yX11_words cX11_words 6 (some .int)) rfl rfl
  by_cases e : id = 216
  · subst e; exact tb_at (n := 7116) (w := Jvm.Cond.code yX11_yes cX11_yes 4 (some .int)) rfl rfl
  by_cases e : id = 217
  · subst e; exact tb_at (n := 4096) (w := Jvm.Cond.code yX2_unmet cX2_unmet 4 (some .int)) rfl rfl
  by_cases e : id = 218
  · subst e; exact tb_at (n := 4209) (w := Jvm.Cond.code yX7_make cX7_make 6 none) rfl rfl
  by_cases e : id = 219
  · subst e; exact tb_at (n := 4032) (w := Jvm.Cond.code yX10_at cX10_at 7 (some .int)) rfl rfl
  by_cases e : id = 220
  · subst e; exact tb_at (n := 3188) (w := Jvm.Cond.code yX10_back cX10_back 5 (some .int)) rfl rfl
  by_cases e : id = 221
  · subst e; exact tb_at (n := 3232) (w := Jvm.Cond.code yX10_came cX10_came 3 (some .int)) rfl rfl
  by_cases e : id = 222
  · subst e; exact tb_at (n := 4044) (w := Jvm.Cond.code yX10_digest cX10_digest 9 (some .long)) rfl rfl
  by_cases e : id = 223
  · subst e; exact tb_at (n := 4119) (w := Jvm.Cond.code yX10_lead cX10_lead 6 (some .int)) rfl rfl
  omega
theorem sg_c7 : ∀ id, 224 ≤ id → id < 252 → Jvm.Cond.code (sgD id).1 (sgD id).2.1 (sgD id).2.2.1 (sgD id).2.2.2.1 ∈ tbG := by
  intro id h1 h2
  by_cases e : id = 224
  · subst e; exact tb_at (n := 3149) (w := Jvm.Cond.code yX10_move cX10_move 6 (some .int)) rfl rfl
  by_cases e : id = 225
  · subst e; exact tb_at (n := 3180) (w := Jvm.Cond.code yX10_note cX10_note 4 (some .int)) rfl rfl
  by_cases e : id = 226
  · subst e; exact tb_at (n := 4150) (w := Jvm.Cond.code yX10_offer cX10_offer 8 (some .int)) rfl rfl
  by_cases e : id = 227
  · subst e; exact tb_at (n := 4092) (w := Jvm.Cond.code yX10_open cX10_open 2 (some .int)) rfl rfl
  by_cases e : id = 228
  · subst e; exact tb_at (n := 4011) (w := Jvm.Cond.code yX10_piece cX10_piece 5 (some .int)) rfl rfl
  by_cases e : id = 229
  · subst e; exact tb_at (n := 3016) (w := Jvm.Cond.code yX10_put cX10_put 8 (some .int)) rfl rfl
  by_cases e : id = 230
  · subst e; exact tb_at (n := 4000) (w := Jvm.Cond.code yX10_say cX10_say 3 (some .int)) rfl rfl
  by_cases e : id = 231
  · subst e; exact tb_at (n := 4036) (w := Jvm.Cond.code yX10_seek cX10_seek 11 (some .int)) rfl rfl
  by_cases e : id = 232
  · subst e; exact tb_at (n := 4007) (w := Jvm.Cond.code yX10_seen cX10_seen 4 (some .int)) rfl rfl
  by_cases e : id = 233
  · subst e; exact tb_at (n := 4205) (w := Jvm.Cond.code yX10_setEdition cX10_setEdition 2 none) rfl rfl
  by_cases e : id = 234
  · subst e; exact tb_at (n := 4065) (w := Jvm.Cond.code yX10_settle cX10_settle 7 (some .int)) rfl rfl
  by_cases e : id = 235
  · subst e; exact tb_at (n := 4131) (w := Jvm.Cond.code yX10_stale cX10_stale 7 (some .int)) rfl rfl
  by_cases e : id = 236
  · subst e; exact tb_at (n := 3144) (w := Jvm.Cond.code yX10_strike cX10_strike 3 (some .int)) rfl rfl
  by_cases e : id = 237
  · subst e; exact tb_at (n := 3184) (w := Jvm.Cond.code yX10_tie cX10_tie 5 (some .int)) rfl rfl
  by_cases e : id = 238
  · subst e; exact tb_at (n := 4177) (w := Jvm.Cond.code yX10_unlike cX10_unlike 7 (some .int)) rfl rfl
  by_cases e : id = 239
  · subst e; exact tb_at (n := 3154) (w := Jvm.Cond.code yX10_words cX10_words 4 (some .int)) rfl rfl
  by_cases e : id = 240
  · subst e; exact tb_at (n := 4077) (w := Jvm.Cond.code yX10_yes cX10_yes 4 (some .int)) rfl rfl
  by_cases e : id = 241
  · subst e; exact tb_at (n := 7203) (w := Jvm.Cond.code yX11_setEdition cX11_setEdition 2 none) rfl rfl
  by_cases e : id = 242
  · subst e; exact tb_at (n := 5056) (w := Jvm.Cond.code yX10_index cX10_index 10 (some .int)) rfl rfl
  by_cases e : id = 243
  · subst e; exact tb_at (n := 5048) (w := Jvm.Cond.code yX10_line cX10_line 4 (some .int)) rfl rfl
  by_cases e : id = 244
  · subst e; exact tb_at (n := 5035) (w := Jvm.Cond.code yX10_onPage cX10_onPage 4 (some .int)) rfl rfl
  by_cases e : id = 245
  · subst e; exact tb_at (n := 4197) (w := Jvm.Cond.code yX10_pages cX10_pages 3 (some .int)) rfl rfl
  by_cases e : id = 246
  · subst e; exact tb_at (n := 5065) (w := Jvm.Cond.code yX10_reach cX10_reach 5 (some .int)) rfl rfl
  by_cases e : id = 247
  · subst e; exact tb_at (n := 8022) (w := Jvm.Cond.code yX11_index cX11_index 6 (some .int)) rfl rfl
  by_cases e : id = 248
  · subst e; exact tb_at (n := 8018) (w := Jvm.Cond.code yX11_line cX11_line 4 (some .int)) rfl rfl
  by_cases e : id = 249
  · subst e; exact tb_at (n := 8014) (w := Jvm.Cond.code yX11_onPage cX11_onPage 4 (some .int)) rfl rfl
  by_cases e : id = 250
  · subst e; exact tb_at (n := 7195) (w := Jvm.Cond.code yX11_pages cX11_pages 3 (some .int)) rfl rfl
  by_cases e : id = 251
  · subst e; exact tb_at (n := 8030) (w := Jvm.Cond.code yX11_reach cX11_reach 10 (some .int)) rfl rfl
  omega
theorem sg_code : ∀ id, id < 252 → Jvm.Cond.code (sgD id).1 (sgD id).2.1 (sgD id).2.2.1 (sgD id).2.2.2.1 ∈ tbG := by
  intro id hid
  by_cases h0 : id < 32
  · exact sg_c0 id (by omega) h0
  by_cases h1 : id < 64
  · exact sg_c1 id (by omega) h1
  by_cases h2 : id < 96
  · exact sg_c2 id (by omega) h2
  by_cases h3 : id < 128
  · exact sg_c3 id (by omega) h3
  by_cases h4 : id < 160
  · exact sg_c4 id (by omega) h4
  by_cases h5 : id < 192
  · exact sg_c5 id (by omega) h5
  by_cases h6 : id < 224
  · exact sg_c6 id (by omega) h6
  by_cases h7 : id < 252
  · exact sg_c7 id (by omega) h7
  omega
