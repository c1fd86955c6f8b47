/-! the words of each method -/
set_option maxRecDepth 20000 in
theorem mm_cp0 : mm_cP 0 := ⟨1023, 1022, 0, 1001, rfl, rfl, by decide +kernel, by decide +kernel, ⟨rfl, by decide +kernel, Or.inl rfl⟩⟩
set_option maxRecDepth 20000 in
theorem mm_cp1 : mm_cP 1 := ⟨2191, 2189, 2190, 1001, rfl, rfl, by decide +kernel, by decide +kernel, ⟨rfl, by decide +kernel, Or.inr rfl⟩⟩
set_option maxRecDepth 20000 in
theorem mm_cp2 : mm_cP 2 := ⟨3016, 3014, 3015, 1001, rfl, rfl, by decide +kernel, by decide +kernel, ⟨rfl, by decide +kernel, Or.inr rfl⟩⟩
set_option maxRecDepth 20000 in
theorem mm_cp3 : mm_cP 3 := ⟨3028, 3026, 3027, 1001, rfl, rfl, by decide +kernel, by decide +kernel, ⟨rfl, by decide +kernel, Or.inr rfl⟩⟩
set_option maxRecDepth 20000 in
theorem mm_cp4 : mm_cP 4 := ⟨3036, 3034, 3035, 1001, rfl, rfl, by decide +kernel, by decide +kernel, ⟨rfl, by decide +kernel, Or.inr rfl⟩⟩
set_option maxRecDepth 20000 in
theorem mm_cp5 : mm_cP 5 := ⟨3061, 3059, 3060, 1001, rfl, rfl, by decide +kernel, by decide +kernel, ⟨rfl, by decide +kernel, Or.inr rfl⟩⟩
set_option maxRecDepth 20000 in
theorem mm_cp6 : mm_cP 6 := ⟨3065, 3063, 3064, 1001, rfl, rfl, by decide +kernel, by decide +kernel, ⟨rfl, by decide +kernel, Or.inr rfl⟩⟩
set_option maxRecDepth 20000 in
theorem mm_cp7 : mm_cP 7 := ⟨3069, 3067, 3068, 1001, rfl, rfl, by decide +kernel, by decide +kernel, ⟨rfl, by decide +kernel, Or.inr rfl⟩⟩
set_option maxRecDepth 20000 in
theorem mm_cp8 : mm_cP 8 := ⟨3106, 3104, 3105, 1001, rfl, rfl, by decide +kernel, by decide +kernel, ⟨rfl, by decide +kernel, Or.inr rfl⟩⟩
set_option maxRecDepth 20000 in
theorem mm_cp9 : mm_cP 9 := ⟨3114, 3112, 3113, 1001, rfl, rfl, by decide +kernel, by decide +kernel, ⟨rfl, by decide +kernel, Or.inr rfl⟩⟩
set_option maxRecDepth 20000 in
theorem mm_cp10 : mm_cP 10 := ⟨3128, 3126, 3127, 1001, rfl, rfl, by decide +kernel, by decide +kernel, ⟨rfl, by decide +kernel, Or.inr rfl⟩⟩
set_option maxRecDepth 20000 in
theorem mm_cp11 : mm_cP 11 := ⟨3132, 3130, 3131, 1001, rfl, rfl, by decide +kernel, by decide +kernel, ⟨rfl, by decide +kernel, Or.inr rfl⟩⟩
set_option maxRecDepth 20000 in
theorem mm_cp12 : mm_cP 12 := ⟨3154, 3152, 3153, 1001, rfl, rfl, by decide +kernel, by decide +kernel, ⟨rfl, by decide +kernel, Or.inr rfl⟩⟩
set_option maxRecDepth 20000 in
theorem mm_cp13 : mm_cP 13 := ⟨3171, 3169, 3170, 1001, rfl, rfl, by decide +kernel, by decide +kernel, ⟨rfl, by decide +kernel, Or.inr rfl⟩⟩
set_option maxRecDepth 20000 in
theorem mm_cp14 : mm_cP 14 := ⟨3175, 3173, 3174, 1001, rfl, rfl, by decide +kernel, by decide +kernel, ⟨rfl, by decide +kernel, Or.inr rfl⟩⟩
set_option maxRecDepth 20000 in
theorem mm_cp15 : mm_cP 15 := ⟨3179, 3177, 3178, 1001, rfl, rfl, by decide +kernel, by decide +kernel, ⟨rfl, by decide +kernel, Or.inr rfl⟩⟩
set_option maxRecDepth 20000 in
theorem mm_cp16 : mm_cP 16 := ⟨3188, 3186, 3187, 1001, rfl, rfl, by decide +kernel, by decide +kernel, ⟨rfl, by decide +kernel, Or.inr rfl⟩⟩
set_option maxRecDepth 20000 in
theorem mm_cp17 : mm_cP 17 := ⟨3196, 3194, 3195, 1001, rfl, rfl, by decide +kernel, by decide +kernel, ⟨rfl, by decide +kernel, Or.inr rfl⟩⟩
set_option maxRecDepth 20000 in
theorem mm_cp18 : mm_cP 18 := ⟨3217, 3215, 3216, 1001, rfl, rfl, by decide +kernel, by decide +kernel, ⟨rfl, by decide +kernel, Or.inr rfl⟩⟩
set_option maxRecDepth 20000 in
theorem mm_cp19 : mm_cP 19 := ⟨3225, 3223, 3224, 1001, rfl, rfl, by decide +kernel, by decide +kernel, ⟨rfl, by decide +kernel, Or.inr rfl⟩⟩
set_option maxRecDepth 20000 in
theorem mm_cp20 : mm_cP 20 := ⟨3229, 3227, 3228, 1001, rfl, rfl, by decide +kernel, by decide +kernel, ⟨rfl, by decide +kernel, Or.inr rfl⟩⟩
set_option maxRecDepth 20000 in
theorem mm_cp21 : mm_cP 21 := ⟨3233, 3231, 3232, 1001, rfl, rfl, by decide +kernel, by decide +kernel, ⟨rfl, by decide +kernel, Or.inr rfl⟩⟩
set_option maxRecDepth 20000 in
theorem mm_cp22 : mm_cP 22 := ⟨3237, 3235, 3236, 1001, rfl, rfl, by decide +kernel, by decide +kernel, ⟨rfl, by decide +kernel, Or.inr rfl⟩⟩
set_option maxRecDepth 20000 in
theorem mm_cp23 : mm_cP 23 := ⟨4001, 3239, 4000, 1001, rfl, rfl, by decide +kernel, by decide +kernel, ⟨rfl, by decide +kernel, Or.inr rfl⟩⟩
set_option maxRecDepth 20000 in
theorem mm_cp24 : mm_cP 24 := ⟨4018, 4016, 4017, 1001, rfl, rfl, by decide +kernel, by decide +kernel, ⟨rfl, by decide +kernel, Or.inr rfl⟩⟩
set_option maxRecDepth 20000 in
theorem mm_cp25 : mm_cP 25 := ⟨4022, 4020, 4021, 1001, rfl, rfl, by decide +kernel, by decide +kernel, ⟨rfl, by decide +kernel, Or.inr rfl⟩⟩
set_option maxRecDepth 20000 in
theorem mm_cp26 : mm_cP 26 := ⟨4031, 4029, 4030, 1001, rfl, rfl, by decide +kernel, by decide +kernel, ⟨rfl, by decide +kernel, Or.inr rfl⟩⟩
set_option maxRecDepth 20000 in
theorem mm_cp27 : mm_cP 27 := ⟨4035, 4033, 4034, 1001, rfl, rfl, by decide +kernel, by decide +kernel, ⟨rfl, by decide +kernel, Or.inr rfl⟩⟩
set_option maxRecDepth 20000 in
theorem mm_cp28 : mm_cP 28 := ⟨4039, 4037, 4038, 1001, rfl, rfl, by decide +kernel, by decide +kernel, ⟨rfl, by decide +kernel, Or.inr rfl⟩⟩
set_option maxRecDepth 20000 in
theorem mm_cp29 : mm_cP 29 := ⟨4048, 4046, 4047, 1001, rfl, rfl, by decide +kernel, by decide +kernel, ⟨rfl, by decide +kernel, Or.inr rfl⟩⟩
set_option maxRecDepth 20000 in
theorem mm_cp30 : mm_cP 30 := ⟨4069, 4067, 4068, 1001, rfl, rfl, by decide +kernel, by decide +kernel, ⟨rfl, by decide +kernel, Or.inr rfl⟩⟩
set_option maxRecDepth 20000 in
theorem mm_cp31 : mm_cP 31 := ⟨4081, 4079, 4080, 1001, rfl, rfl, by decide +kernel, by decide +kernel, ⟨rfl, by decide +kernel, Or.inr rfl⟩⟩
set_option maxRecDepth 20000 in
theorem mm_cp32 : mm_cP 32 := ⟨4110, 4108, 4109, 1001, rfl, rfl, by decide +kernel, by decide +kernel, ⟨rfl, by decide +kernel, Or.inr rfl⟩⟩
set_option maxRecDepth 20000 in
theorem mm_cp33 : mm_cP 33 := ⟨4114, 4112, 4113, 1001, rfl, rfl, by decide +kernel, by decide +kernel, ⟨rfl, by decide +kernel, Or.inr rfl⟩⟩
set_option maxRecDepth 20000 in
theorem mm_cp34 : mm_cP 34 := ⟨4119, 4117, 4118, 1001, rfl, rfl, by decide +kernel, by decide +kernel, ⟨rfl, by decide +kernel, Or.inr rfl⟩⟩
set_option maxRecDepth 20000 in
theorem mm_cp35 : mm_cP 35 := ⟨4128, 4126, 4127, 1001, rfl, rfl, by decide +kernel, by decide +kernel, ⟨rfl, by decide +kernel, Or.inr rfl⟩⟩
set_option maxRecDepth 20000 in
theorem mm_cp36 : mm_cP 36 := ⟨4136, 4134, 4135, 1001, rfl, rfl, by decide +kernel, by decide +kernel, ⟨rfl, by decide +kernel, Or.inr rfl⟩⟩
set_option maxRecDepth 20000 in
theorem mm_cp37 : mm_cP 37 := ⟨4160, 4158, 4159, 1001, rfl, rfl, by decide +kernel, by decide +kernel, ⟨rfl, by decide +kernel, Or.inr rfl⟩⟩
set_option maxRecDepth 20000 in
theorem mm_cp38 : mm_cP 38 := ⟨4164, 4162, 4163, 1001, rfl, rfl, by decide +kernel, by decide +kernel, ⟨rfl, by decide +kernel, Or.inr rfl⟩⟩
set_option maxRecDepth 20000 in
theorem mm_cp39 : mm_cP 39 := ⟨4191, 4189, 4190, 1001, rfl, rfl, by decide +kernel, by decide +kernel, ⟨rfl, by decide +kernel, Or.inr rfl⟩⟩
set_option maxRecDepth 20000 in
theorem mm_cp40 : mm_cP 40 := ⟨4195, 4193, 4194, 1001, rfl, rfl, by decide +kernel, by decide +kernel, ⟨rfl, by decide +kernel, Or.inr rfl⟩⟩
set_option maxRecDepth 20000 in
theorem mm_cp41 : mm_cP 41 := ⟨4199, 4197, 4198, 1001, rfl, rfl, by decide +kernel, by decide +kernel, ⟨rfl, by decide +kernel, Or.inr rfl⟩⟩
set_option maxRecDepth 20000 in
theorem mm_cp42 : mm_cP 42 := ⟨4204, 4202, 4203, 1001, rfl, rfl, by decide +kernel, by decide +kernel, ⟨rfl, by decide +kernel, Or.inr rfl⟩⟩
set_option maxRecDepth 20000 in
theorem mm_cp43 : mm_cP 43 := ⟨4216, 4214, 4215, 1001, rfl, rfl, by decide +kernel, by decide +kernel, ⟨rfl, by decide +kernel, Or.inr rfl⟩⟩
set_option maxRecDepth 20000 in
theorem mm_cp44 : mm_cP 44 := ⟨4220, 4218, 4219, 1001, rfl, rfl, by decide +kernel, by decide +kernel, ⟨rfl, by decide +kernel, Or.inr rfl⟩⟩
set_option maxRecDepth 20000 in
theorem mm_cp45 : mm_cP 45 := ⟨4228, 4226, 4227, 1001, rfl, rfl, by decide +kernel, by decide +kernel, ⟨rfl, by decide +kernel, Or.inr rfl⟩⟩
set_option maxRecDepth 20000 in
theorem mm_cp46 : mm_cP 46 := ⟨4236, 4234, 4235, 1001, rfl, rfl, by decide +kernel, by decide +kernel, ⟨rfl, by decide +kernel, Or.inr rfl⟩⟩
set_option maxRecDepth 20000 in
theorem mm_cp47 : mm_cP 47 := ⟨5004, 5002, 5003, 1001, rfl, rfl, by decide +kernel, by decide +kernel, ⟨rfl, by decide +kernel, Or.inr rfl⟩⟩
set_option maxRecDepth 20000 in
theorem mm_cp48 : mm_cP 48 := ⟨5016, 5014, 5015, 1001, rfl, rfl, by decide +kernel, by decide +kernel, ⟨rfl, by decide +kernel, Or.inr rfl⟩⟩
set_option maxRecDepth 20000 in
theorem mm_cp49 : mm_cP 49 := ⟨5020, 5018, 5019, 1001, rfl, rfl, by decide +kernel, by decide +kernel, ⟨rfl, by decide +kernel, Or.inr rfl⟩⟩
set_option maxRecDepth 20000 in
theorem mm_cp50 : mm_cP 50 := ⟨5217, 5215, 5216, 1001, rfl, rfl, by decide +kernel, by decide +kernel, ⟨rfl, by decide +kernel, Or.inr rfl⟩⟩
set_option maxRecDepth 20000 in
theorem mm_cp51 : mm_cP 51 := ⟨5221, 5219, 5220, 1001, rfl, rfl, by decide +kernel, by decide +kernel, ⟨rfl, by decide +kernel, Or.inr rfl⟩⟩
set_option maxRecDepth 20000 in
theorem mm_cp52 : mm_cP 52 := ⟨5188, 5186, 5187, 1001, rfl, rfl, by decide +kernel, by decide +kernel, ⟨rfl, by decide +kernel, Or.inr rfl⟩⟩
set_option maxRecDepth 20000 in
theorem mm_cp53 : mm_cP 53 := ⟨2199, 2198, 1, 1001, rfl, rfl, by decide +kernel, by decide +kernel, ⟨rfl, by decide +kernel, Or.inr rfl⟩⟩
set_option maxRecDepth 20000 in
theorem mm_cp54 : mm_cP 54 := ⟨2203, 2202, 2, 1001, rfl, rfl, by decide +kernel, by decide +kernel, ⟨rfl, by decide +kernel, Or.inr rfl⟩⟩
set_option maxRecDepth 20000 in
theorem mm_cp55 : mm_cP 55 := ⟨2195, 2194, 0, 1001, rfl, rfl, by decide +kernel, by decide +kernel, ⟨rfl, by decide +kernel, Or.inr rfl⟩⟩
set_option maxRecDepth 20000 in
theorem mm_cp56 : mm_cP 56 := ⟨2207, 2206, 3, 1001, rfl, rfl, by decide +kernel, by decide +kernel, ⟨rfl, by decide +kernel, Or.inr rfl⟩⟩
set_option maxRecDepth 20000 in
theorem mm_cp57 : mm_cP 57 := ⟨4005, 4004, 17, 1001, rfl, rfl, by decide +kernel, by decide +kernel, ⟨rfl, by decide +kernel, Or.inr rfl⟩⟩
set_option maxRecDepth 20000 in
theorem mm_cp58 : mm_cP 58 := ⟨2215, 2214, 4, 1001, rfl, rfl, by decide +kernel, by decide +kernel, ⟨rfl, by decide +kernel, Or.inr rfl⟩⟩
set_option maxRecDepth 20000 in
theorem mm_cp59 : mm_cP 59 := ⟨3183, 3182, 15, 1001, rfl, rfl, by decide +kernel, by decide +kernel, ⟨rfl, by decide +kernel, Or.inr rfl⟩⟩
set_option maxRecDepth 20000 in
theorem mm_cp60 : mm_cP 60 := ⟨2228, 2227, 7, 1001, rfl, rfl, by decide +kernel, by decide +kernel, ⟨rfl, by decide +kernel, Or.inr rfl⟩⟩
set_option maxRecDepth 20000 in
theorem mm_cp61 : mm_cP 61 := ⟨2224, 2223, 6, 1001, rfl, rfl, by decide +kernel, by decide +kernel, ⟨rfl, by decide +kernel, Or.inr rfl⟩⟩
set_option maxRecDepth 20000 in
theorem mm_cp62 : mm_cP 62 := ⟨3192, 3191, 16, 1001, rfl, rfl, by decide +kernel, by decide +kernel, ⟨rfl, by decide +kernel, Or.inr rfl⟩⟩
set_option maxRecDepth 20000 in
theorem mm_cp63 : mm_cP 63 := ⟨3008, 3007, 8, 1001, rfl, rfl, by decide +kernel, by decide +kernel, ⟨rfl, by decide +kernel, Or.inr rfl⟩⟩
set_option maxRecDepth 20000 in
theorem mm_cp64 : mm_cP 64 := ⟨3012, 3011, 9, 1001, rfl, rfl, by decide +kernel, by decide +kernel, ⟨rfl, by decide +kernel, Or.inr rfl⟩⟩
set_option maxRecDepth 20000 in
theorem mm_cp65 : mm_cP 65 := ⟨4052, 4051, 18, 1001, rfl, rfl, by decide +kernel, by decide +kernel, ⟨rfl, by decide +kernel, Or.inr rfl⟩⟩
set_option maxRecDepth 20000 in
theorem mm_cp66 : mm_cP 66 := ⟨4056, 4055, 19, 1001, rfl, rfl, by decide +kernel, by decide +kernel, ⟨rfl, by decide +kernel, Or.inr rfl⟩⟩
set_option maxRecDepth 20000 in
theorem mm_cp67 : mm_cP 67 := ⟨2220, 2219, 5, 1001, rfl, rfl, by decide +kernel, by decide +kernel, ⟨rfl, by decide +kernel, Or.inr rfl⟩⟩
set_option maxRecDepth 20000 in
theorem mm_cp68 : mm_cP 68 := ⟨3049, 3048, 11, 1001, rfl, rfl, by decide +kernel, by decide +kernel, ⟨rfl, by decide +kernel, Or.inr rfl⟩⟩
set_option maxRecDepth 20000 in
theorem mm_cp69 : mm_cP 69 := ⟨3158, 3157, 13, 1001, rfl, rfl, by decide +kernel, by decide +kernel, ⟨rfl, by decide +kernel, Or.inr rfl⟩⟩
set_option maxRecDepth 20000 in
theorem mm_cp70 : mm_cP 70 := ⟨3167, 3166, 14, 1001, rfl, rfl, by decide +kernel, by decide +kernel, ⟨rfl, by decide +kernel, Or.inr rfl⟩⟩
set_option maxRecDepth 20000 in
theorem mm_cp71 : mm_cP 71 := ⟨3140, 3139, 12, 1001, rfl, rfl, by decide +kernel, by decide +kernel, ⟨rfl, by decide +kernel, Or.inr rfl⟩⟩
set_option maxRecDepth 20000 in
theorem mm_cp72 : mm_cP 72 := ⟨4089, 4088, 22, 1001, rfl, rfl, by decide +kernel, by decide +kernel, ⟨rfl, by decide +kernel, Or.inr rfl⟩⟩
set_option maxRecDepth 20000 in
theorem mm_cp73 : mm_cP 73 := ⟨4085, 4084, 21, 1001, rfl, rfl, by decide +kernel, by decide +kernel, ⟨rfl, by decide +kernel, Or.inr rfl⟩⟩
set_option maxRecDepth 20000 in
theorem mm_cp74 : mm_cP 74 := ⟨4073, 4072, 20, 1001, rfl, rfl, by decide +kernel, by decide +kernel, ⟨rfl, by decide +kernel, Or.inr rfl⟩⟩
set_option maxRecDepth 20000 in
theorem mm_cp75 : mm_cP 75 := ⟨4093, 4092, 23, 1001, rfl, rfl, by decide +kernel, by decide +kernel, ⟨rfl, by decide +kernel, Or.inr rfl⟩⟩
set_option maxRecDepth 20000 in
theorem mm_cp76 : mm_cP 76 := ⟨5094, 5093, 28, 1001, rfl, rfl, by decide +kernel, by decide +kernel, ⟨rfl, by decide +kernel, Or.inr rfl⟩⟩
set_option maxRecDepth 20000 in
theorem mm_cp77 : mm_cP 77 := ⟨5103, 5102, 29, 1001, rfl, rfl, by decide +kernel, by decide +kernel, ⟨rfl, by decide +kernel, Or.inr rfl⟩⟩
set_option maxRecDepth 20000 in
theorem mm_cp78 : mm_cP 78 := ⟨5130, 5129, 31, 1001, rfl, rfl, by decide +kernel, by decide +kernel, ⟨rfl, by decide +kernel, Or.inr rfl⟩⟩
set_option maxRecDepth 20000 in
theorem mm_cp79 : mm_cP 79 := ⟨2037, 2036, 0, 1009, rfl, rfl, by decide +kernel, by decide +kernel, ⟨rfl, by decide +kernel, Or.inl rfl⟩⟩
set_option maxRecDepth 20000 in
theorem mm_cp80 : mm_cP 80 := ⟨2117, 2115, 2116, 1009, rfl, rfl, by decide +kernel, by decide +kernel, ⟨rfl, by decide +kernel, Or.inr rfl⟩⟩
set_option maxRecDepth 20000 in
theorem mm_cp81 : mm_cP 81 := ⟨4097, 4095, 4096, 1009, rfl, rfl, by decide +kernel, by decide +kernel, ⟨rfl, by decide +kernel, Or.inr rfl⟩⟩
set_option maxRecDepth 20000 in
theorem mm_cp82 : mm_cP 82 := ⟨3077, 3075, 3076, 1009, rfl, rfl, by decide +kernel, by decide +kernel, ⟨rfl, by decide +kernel, Or.inr rfl⟩⟩
set_option maxRecDepth 20000 in
theorem mm_cp83 : mm_cP 83 := ⟨1129, 1128, 0, 1004, rfl, rfl, by decide +kernel, by decide +kernel, ⟨rfl, by decide +kernel, Or.inl rfl⟩⟩
set_option maxRecDepth 20000 in
theorem mm_cp84 : mm_cP 84 := ⟨4208, 4206, 4207, 1004, rfl, rfl, by decide +kernel, by decide +kernel, ⟨rfl, by decide +kernel, Or.inr rfl⟩⟩
set_option maxRecDepth 20000 in
theorem mm_cp85 : mm_cP 85 := ⟨4212, 4210, 4211, 1004, rfl, rfl, by decide +kernel, by decide +kernel, ⟨rfl, by decide +kernel, Or.inr rfl⟩⟩
set_option maxRecDepth 20000 in
theorem mm_cp86 : mm_cP 86 := ⟨4224, 4222, 4223, 1004, rfl, rfl, by decide +kernel, by decide +kernel, ⟨rfl, by decide +kernel, Or.inr rfl⟩⟩
set_option maxRecDepth 20000 in
theorem mm_cp87 : mm_cP 87 := ⟨4232, 4230, 4231, 1004, rfl, rfl, by decide +kernel, by decide +kernel, ⟨rfl, by decide +kernel, Or.inr rfl⟩⟩
set_option maxRecDepth 20000 in
theorem mm_cp88 : mm_cP 88 := ⟨5000, 4238, 4239, 1004, rfl, rfl, by decide +kernel, by decide +kernel, ⟨rfl, by decide +kernel, Or.inr rfl⟩⟩
set_option maxRecDepth 20000 in
theorem mm_cp89 : mm_cP 89 := ⟨2099, 2098, 0, 1011, rfl, rfl, by decide +kernel, by decide +kernel, ⟨rfl, by decide +kernel, Or.inl rfl⟩⟩
set_option maxRecDepth 20000 in
theorem mm_cp90 : mm_cP 90 := ⟨4026, 4024, 4025, 1011, rfl, rfl, by decide +kernel, by decide +kernel, ⟨rfl, by decide +kernel, Or.inr rfl⟩⟩
set_option maxRecDepth 20000 in
theorem mm_cp91 : mm_cP 91 := ⟨3144, 3142, 3143, 1011, rfl, rfl, by decide +kernel, by decide +kernel, ⟨rfl, by decide +kernel, Or.inr rfl⟩⟩
set_option maxRecDepth 20000 in
theorem mm_cp92 : mm_cP 92 := ⟨4009, 4007, 4008, 1011, rfl, rfl, by decide +kernel, by decide +kernel, ⟨rfl, by decide +kernel, Or.inr rfl⟩⟩
set_option maxRecDepth 20000 in
theorem mm_cp93 : mm_cP 93 := ⟨4014, 4012, 4013, 1011, rfl, rfl, by decide +kernel, by decide +kernel, ⟨rfl, by decide +kernel, Or.inr rfl⟩⟩
set_option maxRecDepth 20000 in
theorem mm_cp94 : mm_cP 94 := ⟨1191, 1190, 0, 1008, rfl, rfl, by decide +kernel, by decide +kernel, ⟨rfl, by decide +kernel, Or.inl rfl⟩⟩
set_option maxRecDepth 20000 in
theorem mm_cp95 : mm_cP 95 := ⟨2121, 2119, 2120, 1008, rfl, rfl, by decide +kernel, by decide +kernel, ⟨rfl, by decide +kernel, Or.inr rfl⟩⟩
set_option maxRecDepth 20000 in
theorem mm_cp96 : mm_cP 96 := ⟨4064, 4062, 4063, 1008, rfl, rfl, by decide +kernel, by decide +kernel, ⟨rfl, by decide +kernel, Or.inr rfl⟩⟩
set_option maxRecDepth 20000 in
theorem mm_cp97 : mm_cP 97 := ⟨3032, 3030, 3031, 1008, rfl, rfl, by decide +kernel, by decide +kernel, ⟨rfl, by decide +kernel, Or.inr rfl⟩⟩
set_option maxRecDepth 20000 in
theorem mm_cp98 : mm_cP 98 := ⟨2236, 2234, 2235, 1008, rfl, rfl, by decide +kernel, by decide +kernel, ⟨rfl, by decide +kernel, Or.inr rfl⟩⟩
set_option maxRecDepth 20000 in
theorem mm_cp99 : mm_cP 99 := ⟨2232, 2230, 2231, 1008, rfl, rfl, by decide +kernel, by decide +kernel, ⟨rfl, by decide +kernel, Or.inr rfl⟩⟩
set_option maxRecDepth 20000 in
theorem mm_cp100 : mm_cP 100 := ⟨3004, 3002, 3003, 1008, rfl, rfl, by decide +kernel, by decide +kernel, ⟨rfl, by decide +kernel, Or.inr rfl⟩⟩
set_option maxRecDepth 20000 in
theorem mm_cp101 : mm_cP 101 := ⟨3136, 3134, 3135, 1008, rfl, rfl, by decide +kernel, by decide +kernel, ⟨rfl, by decide +kernel, Or.inr rfl⟩⟩
set_option maxRecDepth 20000 in
theorem mm_cp102 : mm_cP 102 := ⟨3204, 3202, 3203, 1008, rfl, rfl, by decide +kernel, by decide +kernel, ⟨rfl, by decide +kernel, Or.inr rfl⟩⟩
set_option maxRecDepth 20000 in
theorem mm_cp103 : mm_cP 103 := ⟨3200, 3198, 3199, 1008, rfl, rfl, by decide +kernel, by decide +kernel, ⟨rfl, by decide +kernel, Or.inr rfl⟩⟩
set_option maxRecDepth 20000 in
theorem mm_cp104 : mm_cP 104 := ⟨3221, 3219, 3220, 1008, rfl, rfl, by decide +kernel, by decide +kernel, ⟨rfl, by decide +kernel, Or.inr rfl⟩⟩
set_option maxRecDepth 20000 in
theorem mm_cp105 : mm_cP 105 := ⟨3208, 3206, 3207, 1008, rfl, rfl, by decide +kernel, by decide +kernel, ⟨rfl, by decide +kernel, Or.inr rfl⟩⟩
set_option maxRecDepth 20000 in
theorem mm_cp106 : mm_cP 106 := ⟨3213, 3211, 3212, 1008, rfl, rfl, by decide +kernel, by decide +kernel, ⟨rfl, by decide +kernel, Or.inr rfl⟩⟩
set_option maxRecDepth 20000 in
theorem mm_cp107 : mm_cP 107 := ⟨3089, 3087, 3088, 1008, rfl, rfl, by decide +kernel, by decide +kernel, ⟨rfl, by decide +kernel, Or.inr rfl⟩⟩
set_option maxRecDepth 20000 in
theorem mm_cp108 : mm_cP 108 := ⟨3098, 3096, 3097, 1008, rfl, rfl, by decide +kernel, by decide +kernel, ⟨rfl, by decide +kernel, Or.inr rfl⟩⟩
set_option maxRecDepth 20000 in
theorem mm_cp109 : mm_cP 109 := ⟨3118, 3116, 3117, 1008, rfl, rfl, by decide +kernel, by decide +kernel, ⟨rfl, by decide +kernel, Or.inr rfl⟩⟩
set_option maxRecDepth 20000 in
theorem mm_cp110 : mm_cP 110 := ⟨3148, 3146, 3147, 1008, rfl, rfl, by decide +kernel, by decide +kernel, ⟨rfl, by decide +kernel, Or.inr rfl⟩⟩
set_option maxRecDepth 20000 in
theorem mm_cp111 : mm_cP 111 := ⟨2129, 2127, 2128, 1008, rfl, rfl, by decide +kernel, by decide +kernel, ⟨rfl, by decide +kernel, Or.inr rfl⟩⟩
set_option maxRecDepth 20000 in
theorem mm_cp112 : mm_cP 112 := ⟨2141, 2139, 2140, 1008, rfl, rfl, by decide +kernel, by decide +kernel, ⟨rfl, by decide +kernel, Or.inr rfl⟩⟩
set_option maxRecDepth 20000 in
theorem mm_cp113 : mm_cP 113 := ⟨4177, 4175, 4176, 1008, rfl, rfl, by decide +kernel, by decide +kernel, ⟨rfl, by decide +kernel, Or.inr rfl⟩⟩
set_option maxRecDepth 20000 in
theorem mm_cp114 : mm_cP 114 := ⟨4140, 4138, 4139, 1008, rfl, rfl, by decide +kernel, by decide +kernel, ⟨rfl, by decide +kernel, Or.inr rfl⟩⟩
set_option maxRecDepth 20000 in
theorem mm_cp115 : mm_cP 115 := ⟨4148, 4147, 24, 1008, rfl, rfl, by decide +kernel, by decide +kernel, ⟨rfl, by decide +kernel, Or.inr rfl⟩⟩
set_option maxRecDepth 20000 in
theorem mm_cp116 : mm_cP 116 := ⟨4152, 4151, 25, 1008, rfl, rfl, by decide +kernel, by decide +kernel, ⟨rfl, by decide +kernel, Or.inr rfl⟩⟩
set_option maxRecDepth 20000 in
theorem mm_cp117 : mm_cP 117 := ⟨4156, 4155, 26, 1008, rfl, rfl, by decide +kernel, by decide +kernel, ⟨rfl, by decide +kernel, Or.inr rfl⟩⟩
set_option maxRecDepth 20000 in
theorem mm_cp118 : mm_cP 118 := ⟨1037, 1036, 0, 1002, rfl, rfl, by decide +kernel, by decide +kernel, ⟨rfl, by decide +kernel, Or.inl rfl⟩⟩
set_option maxRecDepth 20000 in
theorem mm_cp119 : mm_cP 119 := ⟨3020, 3018, 3019, 1002, rfl, rfl, by decide +kernel, by decide +kernel, ⟨rfl, by decide +kernel, Or.inr rfl⟩⟩
set_option maxRecDepth 20000 in
theorem mm_cp120 : mm_cP 120 := ⟨3024, 3022, 3023, 1002, rfl, rfl, by decide +kernel, by decide +kernel, ⟨rfl, by decide +kernel, Or.inr rfl⟩⟩
set_option maxRecDepth 20000 in
theorem mm_cp121 : mm_cP 121 := ⟨3040, 3038, 3039, 1002, rfl, rfl, by decide +kernel, by decide +kernel, ⟨rfl, by decide +kernel, Or.inr rfl⟩⟩
set_option maxRecDepth 20000 in
theorem mm_cp122 : mm_cP 122 := ⟨3057, 3055, 3056, 1002, rfl, rfl, by decide +kernel, by decide +kernel, ⟨rfl, by decide +kernel, Or.inr rfl⟩⟩
set_option maxRecDepth 20000 in
theorem mm_cp123 : mm_cP 123 := ⟨3053, 3051, 3052, 1002, rfl, rfl, by decide +kernel, by decide +kernel, ⟨rfl, by decide +kernel, Or.inr rfl⟩⟩
set_option maxRecDepth 20000 in
theorem mm_cp124 : mm_cP 124 := ⟨3044, 3043, 10, 1002, rfl, rfl, by decide +kernel, by decide +kernel, ⟨rfl, by decide +kernel, Or.inr rfl⟩⟩
set_option maxRecDepth 20000 in
theorem mm_cp125 : mm_cP 125 := ⟨1146, 1145, 0, 1006, rfl, rfl, by decide +kernel, by decide +kernel, ⟨rfl, by decide +kernel, Or.inl rfl⟩⟩
set_option maxRecDepth 20000 in
theorem mm_cp126 : mm_cP 126 := ⟨3073, 3071, 3072, 1006, rfl, rfl, by decide +kernel, by decide +kernel, ⟨rfl, by decide +kernel, Or.inr rfl⟩⟩
set_option maxRecDepth 20000 in
theorem mm_cp127 : mm_cP 127 := ⟨3093, 3091, 3092, 1006, rfl, rfl, by decide +kernel, by decide +kernel, ⟨rfl, by decide +kernel, Or.inr rfl⟩⟩
set_option maxRecDepth 20000 in
theorem mm_cp128 : mm_cP 128 := ⟨2133, 2131, 2132, 1006, rfl, rfl, by decide +kernel, by decide +kernel, ⟨rfl, by decide +kernel, Or.inr rfl⟩⟩
set_option maxRecDepth 20000 in
theorem mm_cp129 : mm_cP 129 := ⟨2137, 2135, 2136, 1006, rfl, rfl, by decide +kernel, by decide +kernel, ⟨rfl, by decide +kernel, Or.inr rfl⟩⟩
set_option maxRecDepth 20000 in
theorem mm_cp130 : mm_cP 130 := ⟨3110, 3108, 3109, 1006, rfl, rfl, by decide +kernel, by decide +kernel, ⟨rfl, by decide +kernel, Or.inr rfl⟩⟩
set_option maxRecDepth 20000 in
theorem mm_cp131 : mm_cP 131 := ⟨3102, 3100, 3101, 1006, rfl, rfl, by decide +kernel, by decide +kernel, ⟨rfl, by decide +kernel, Or.inr rfl⟩⟩
set_option maxRecDepth 20000 in
theorem mm_cp132 : mm_cP 132 := ⟨3123, 3121, 3122, 1006, rfl, rfl, by decide +kernel, by decide +kernel, ⟨rfl, by decide +kernel, Or.inr rfl⟩⟩
set_option maxRecDepth 20000 in
theorem mm_cp133 : mm_cP 133 := ⟨4144, 4142, 4143, 1006, rfl, rfl, by decide +kernel, by decide +kernel, ⟨rfl, by decide +kernel, Or.inr rfl⟩⟩
set_option maxRecDepth 20000 in
theorem mm_cp134 : mm_cP 134 := ⟨5192, 5190, 5191, 1006, rfl, rfl, by decide +kernel, by decide +kernel, ⟨rfl, by decide +kernel, Or.inr rfl⟩⟩
set_option maxRecDepth 20000 in
theorem mm_cp135 : mm_cP 135 := ⟨5200, 5198, 5199, 1006, rfl, rfl, by decide +kernel, by decide +kernel, ⟨rfl, by decide +kernel, Or.inr rfl⟩⟩
set_option maxRecDepth 20000 in
theorem mm_cp136 : mm_cP 136 := ⟨5204, 5202, 5203, 1006, rfl, rfl, by decide +kernel, by decide +kernel, ⟨rfl, by decide +kernel, Or.inr rfl⟩⟩
set_option maxRecDepth 20000 in
theorem mm_cp137 : mm_cP 137 := ⟨1061, 1060, 0, 1003, rfl, rfl, by decide +kernel, by decide +kernel, ⟨rfl, by decide +kernel, Or.inl rfl⟩⟩
set_option maxRecDepth 20000 in
theorem mm_cp138 : mm_cP 138 := ⟨5008, 5006, 5007, 1003, rfl, rfl, by decide +kernel, by decide +kernel, ⟨rfl, by decide +kernel, Or.inr rfl⟩⟩
set_option maxRecDepth 20000 in
theorem mm_cp139 : mm_cP 139 := ⟨5012, 5010, 5011, 1003, rfl, rfl, by decide +kernel, by decide +kernel, ⟨rfl, by decide +kernel, Or.inr rfl⟩⟩
set_option maxRecDepth 20000 in
theorem mm_cp140 : mm_cP 140 := ⟨5024, 5022, 5023, 1003, rfl, rfl, by decide +kernel, by decide +kernel, ⟨rfl, by decide +kernel, Or.inr rfl⟩⟩
set_option maxRecDepth 20000 in
theorem mm_cp141 : mm_cP 141 := ⟨5028, 5026, 5027, 1003, rfl, rfl, by decide +kernel, by decide +kernel, ⟨rfl, by decide +kernel, Or.inr rfl⟩⟩
set_option maxRecDepth 20000 in
theorem mm_cp142 : mm_cP 142 := ⟨5032, 5030, 5031, 1003, rfl, rfl, by decide +kernel, by decide +kernel, ⟨rfl, by decide +kernel, Or.inr rfl⟩⟩
set_option maxRecDepth 20000 in
theorem mm_cp143 : mm_cP 143 := ⟨5036, 5034, 5035, 1003, rfl, rfl, by decide +kernel, by decide +kernel, ⟨rfl, by decide +kernel, Or.inr rfl⟩⟩
set_option maxRecDepth 20000 in
theorem mm_cp144 : mm_cP 144 := ⟨5042, 5041, 27, 1003, rfl, rfl, by decide +kernel, by decide +kernel, ⟨rfl, by decide +kernel, Or.inr rfl⟩⟩
set_option maxRecDepth 20000 in
theorem mm_cp145 : mm_cP 145 := ⟨5115, 5114, 30, 1003, rfl, rfl, by decide +kernel, by decide +kernel, ⟨rfl, by decide +kernel, Or.inr rfl⟩⟩
set_option maxRecDepth 20000 in
theorem mm_cp146 : mm_cP 146 := ⟨5121, 5119, 5120, 1003, rfl, rfl, by decide +kernel, by decide +kernel, ⟨rfl, by decide +kernel, Or.inr rfl⟩⟩
set_option maxRecDepth 20000 in
theorem mm_cp147 : mm_cP 147 := ⟨5099, 5097, 5098, 1003, rfl, rfl, by decide +kernel, by decide +kernel, ⟨rfl, by decide +kernel, Or.inr rfl⟩⟩
set_option maxRecDepth 20000 in
theorem mm_cp148 : mm_cP 148 := ⟨5107, 5105, 5106, 1003, rfl, rfl, by decide +kernel, by decide +kernel, ⟨rfl, by decide +kernel, Or.inr rfl⟩⟩
set_option maxRecDepth 20000 in
theorem mm_cp149 : mm_cP 149 := ⟨5111, 5109, 5110, 1003, rfl, rfl, by decide +kernel, by decide +kernel, ⟨rfl, by decide +kernel, Or.inr rfl⟩⟩
set_option maxRecDepth 20000 in
theorem mm_cp150 : mm_cP 150 := ⟨5126, 5124, 5125, 1003, rfl, rfl, by decide +kernel, by decide +kernel, ⟨rfl, by decide +kernel, Or.inr rfl⟩⟩
set_option maxRecDepth 20000 in
theorem mm_cp151 : mm_cP 151 := ⟨5208, 5206, 5207, 1003, rfl, rfl, by decide +kernel, by decide +kernel, ⟨rfl, by decide +kernel, Or.inr rfl⟩⟩
set_option maxRecDepth 20000 in
theorem mm_cp152 : mm_cP 152 := ⟨5213, 5212, 32, 1003, rfl, rfl, by decide +kernel, by decide +kernel, ⟨rfl, by decide +kernel, Or.inr rfl⟩⟩
set_option maxRecDepth 20000 in
theorem mm_cp153 : mm_cP 153 := ⟨2075, 2074, 0, 1010, rfl, rfl, by decide +kernel, by decide +kernel, ⟨rfl, by decide +kernel, Or.inl rfl⟩⟩
set_option maxRecDepth 20000 in
theorem mm_cp154 : mm_cP 154 := ⟨4043, 4041, 4042, 1010, rfl, rfl, by decide +kernel, by decide +kernel, ⟨rfl, by decide +kernel, Or.inr rfl⟩⟩
set_option maxRecDepth 20000 in
theorem mm_cp155 : mm_cP 155 := ⟨4105, 4103, 4104, 1010, rfl, rfl, by decide +kernel, by decide +kernel, ⟨rfl, by decide +kernel, Or.inr rfl⟩⟩
set_option maxRecDepth 20000 in
theorem mm_cp156 : mm_cP 156 := ⟨1184, 1183, 0, 1007, rfl, rfl, by decide +kernel, by decide +kernel, ⟨rfl, by decide +kernel, Or.inl rfl⟩⟩
set_option maxRecDepth 20000 in
theorem mm_cp157 : mm_cP 157 := ⟨2211, 2209, 2210, 1007, rfl, rfl, by decide +kernel, by decide +kernel, ⟨rfl, by decide +kernel, Or.inr rfl⟩⟩
set_option maxRecDepth 20000 in
theorem mm_cp158 : mm_cP 158 := ⟨3000, 2238, 2239, 1007, rfl, rfl, by decide +kernel, by decide +kernel, ⟨rfl, by decide +kernel, Or.inr rfl⟩⟩
set_option maxRecDepth 20000 in
theorem mm_cp159 : mm_cP 159 := ⟨4132, 4130, 4131, 1007, rfl, rfl, by decide +kernel, by decide +kernel, ⟨rfl, by decide +kernel, Or.inr rfl⟩⟩
set_option maxRecDepth 20000 in
theorem mm_cp160 : mm_cP 160 := ⟨3085, 3083, 3084, 1007, rfl, rfl, by decide +kernel, by decide +kernel, ⟨rfl, by decide +kernel, Or.inr rfl⟩⟩
set_option maxRecDepth 20000 in
theorem mm_cp161 : mm_cP 161 := ⟨4077, 4075, 4076, 1007, rfl, rfl, by decide +kernel, by decide +kernel, ⟨rfl, by decide +kernel, Or.inr rfl⟩⟩
set_option maxRecDepth 20000 in
theorem mm_cp162 : mm_cP 162 := ⟨3081, 3079, 3080, 1007, rfl, rfl, by decide +kernel, by decide +kernel, ⟨rfl, by decide +kernel, Or.inr rfl⟩⟩
set_option maxRecDepth 20000 in
theorem mm_cp163 : mm_cP 163 := ⟨4123, 4121, 4122, 1007, rfl, rfl, by decide +kernel, by decide +kernel, ⟨rfl, by decide +kernel, Or.inr rfl⟩⟩
set_option maxRecDepth 20000 in
theorem mm_cp164 : mm_cP 164 := ⟨3162, 3160, 3161, 1007, rfl, rfl, by decide +kernel, by decide +kernel, ⟨rfl, by decide +kernel, Or.inr rfl⟩⟩
set_option maxRecDepth 20000 in
theorem mm_cp165 : mm_cP 165 := ⟨2125, 2123, 2124, 1007, rfl, rfl, by decide +kernel, by decide +kernel, ⟨rfl, by decide +kernel, Or.inr rfl⟩⟩
set_option maxRecDepth 20000 in
theorem mm_cp166 : mm_cP 166 := ⟨4101, 4099, 4100, 1007, rfl, rfl, by decide +kernel, by decide +kernel, ⟨rfl, by decide +kernel, Or.inr rfl⟩⟩
set_option maxRecDepth 20000 in
theorem mm_cp167 : mm_cP 167 := ⟨4060, 4058, 4059, 1007, rfl, rfl, by decide +kernel, by decide +kernel, ⟨rfl, by decide +kernel, Or.inr rfl⟩⟩
set_option maxRecDepth 20000 in
theorem mm_cp168 : mm_cP 168 := ⟨4168, 4166, 4167, 1007, rfl, rfl, by decide +kernel, by decide +kernel, ⟨rfl, by decide +kernel, Or.inr rfl⟩⟩
set_option maxRecDepth 20000 in
theorem mm_cp169 : mm_cP 169 := ⟨4173, 4171, 4172, 1007, rfl, rfl, by decide +kernel, by decide +kernel, ⟨rfl, by decide +kernel, Or.inr rfl⟩⟩
set_option maxRecDepth 20000 in
theorem mm_cp170 : mm_cP 170 := ⟨4181, 4179, 4180, 1007, rfl, rfl, by decide +kernel, by decide +kernel, ⟨rfl, by decide +kernel, Or.inr rfl⟩⟩
set_option maxRecDepth 20000 in
theorem mm_cp171 : mm_cP 171 := ⟨4185, 4183, 4184, 1007, rfl, rfl, by decide +kernel, by decide +kernel, ⟨rfl, by decide +kernel, Or.inr rfl⟩⟩
set_option maxRecDepth 20000 in
theorem mm_cp172 : mm_cP 172 := ⟨5196, 5194, 5195, 1007, rfl, rfl, by decide +kernel, by decide +kernel, ⟨rfl, by decide +kernel, Or.inr rfl⟩⟩
set_option maxRecDepth 20000 in
theorem mm_cp173 : mm_cP 173 := ⟨5230, 5229, 0, 1013, rfl, rfl, by decide +kernel, by decide +kernel, ⟨rfl, by decide +kernel, Or.inl rfl⟩⟩
set_option maxRecDepth 20000 in
theorem mm_cp174 : mm_cP 174 := ⟨6178, 6177, 0, 1013, rfl, rfl, by decide +kernel, by decide +kernel, ⟨rfl, by decide +kernel⟩⟩
set_option maxRecDepth 20000 in
theorem mm_cp175 : mm_cP 175 := ⟨6009, 6008, 0, 1013, rfl, rfl, by decide +kernel, by decide +kernel, ⟨rfl, by decide +kernel⟩⟩
set_option maxRecDepth 20000 in
theorem mm_cp176 : mm_cP 176 := ⟨6174, 6173, 39, 1013, rfl, rfl, by decide +kernel, by decide +kernel, ⟨rfl, by decide +kernel, Or.inr rfl⟩⟩
set_option maxRecDepth 20000 in
theorem mm_cp177 : mm_cP 177 := ⟨7010, 7009, 50, 1013, rfl, rfl, by decide +kernel, by decide +kernel, ⟨rfl, by decide +kernel, Or.inr rfl⟩⟩
set_option maxRecDepth 20000 in
theorem mm_cp178 : mm_cP 178 := ⟨6013, 6012, 36, 1013, rfl, rfl, by decide +kernel, by decide +kernel, ⟨rfl, by decide +kernel, Or.inr rfl⟩⟩
set_option maxRecDepth 20000 in
theorem mm_cp179 : mm_cP 179 := ⟨6006, 6005, 35, 1013, rfl, rfl, by decide +kernel, by decide +kernel, ⟨rfl, by decide +kernel, Or.inr rfl⟩⟩
set_option maxRecDepth 20000 in
theorem mm_cp180 : mm_cP 180 := ⟨6204, 6203, 45, 1013, rfl, rfl, by decide +kernel, by decide +kernel, ⟨rfl, by decide +kernel, Or.inr rfl⟩⟩
set_option maxRecDepth 20000 in
theorem mm_cp181 : mm_cP 181 := ⟨6166, 6165, 37, 1013, rfl, rfl, by decide +kernel, by decide +kernel, ⟨rfl, by decide +kernel, Or.inr rfl⟩⟩
set_option maxRecDepth 20000 in
theorem mm_cp182 : mm_cP 182 := ⟨7157, 7156, 71, 1013, rfl, rfl, by decide +kernel, by decide +kernel, ⟨rfl, by decide +kernel, Or.inr rfl⟩⟩
set_option maxRecDepth 20000 in
theorem mm_cp183 : mm_cP 183 := ⟨7207, 7206, 76, 1013, rfl, rfl, by decide +kernel, by decide +kernel, ⟨rfl, by decide +kernel, Or.inr rfl⟩⟩
set_option maxRecDepth 20000 in
theorem mm_cp184 : mm_cP 184 := ⟨6200, 6199, 44, 1013, rfl, rfl, by decide +kernel, by decide +kernel, ⟨rfl, by decide +kernel, Or.inr rfl⟩⟩
set_option maxRecDepth 20000 in
theorem mm_cp185 : mm_cP 185 := ⟨6232, 6231, 49, 1013, rfl, rfl, by decide +kernel, by decide +kernel, ⟨rfl, by decide +kernel, Or.inr rfl⟩⟩
set_option maxRecDepth 20000 in
theorem mm_cp186 : mm_cP 186 := ⟨6208, 6207, 46, 1013, rfl, rfl, by decide +kernel, by decide +kernel, ⟨rfl, by decide +kernel, Or.inr rfl⟩⟩
set_option maxRecDepth 20000 in
theorem mm_cp187 : mm_cP 187 := ⟨7082, 7081, 64, 1013, rfl, rfl, by decide +kernel, by decide +kernel, ⟨rfl, by decide +kernel, Or.inr rfl⟩⟩
set_option maxRecDepth 20000 in
theorem mm_cp188 : mm_cP 188 := ⟨7070, 7069, 62, 1013, rfl, rfl, by decide +kernel, by decide +kernel, ⟨rfl, by decide +kernel, Or.inr rfl⟩⟩
set_option maxRecDepth 20000 in
theorem mm_cp189 : mm_cP 189 := ⟨6228, 6227, 48, 1013, rfl, rfl, by decide +kernel, by decide +kernel, ⟨rfl, by decide +kernel, Or.inr rfl⟩⟩
set_option maxRecDepth 20000 in
theorem mm_cp190 : mm_cP 190 := ⟨7090, 7089, 66, 1013, rfl, rfl, by decide +kernel, by decide +kernel, ⟨rfl, by decide +kernel, Or.inr rfl⟩⟩
set_option maxRecDepth 20000 in
theorem mm_cp191 : mm_cP 191 := ⟨7086, 7085, 65, 1013, rfl, rfl, by decide +kernel, by decide +kernel, ⟨rfl, by decide +kernel, Or.inr rfl⟩⟩
set_option maxRecDepth 20000 in
theorem mm_cp192 : mm_cP 192 := ⟨7174, 7173, 73, 1013, rfl, rfl, by decide +kernel, by decide +kernel, ⟨rfl, by decide +kernel, Or.inr rfl⟩⟩
set_option maxRecDepth 20000 in
theorem mm_cp193 : mm_cP 193 := ⟨7215, 7214, 78, 1013, rfl, rfl, by decide +kernel, by decide +kernel, ⟨rfl, by decide +kernel, Or.inr rfl⟩⟩
set_option maxRecDepth 20000 in
theorem mm_cp194 : mm_cP 194 := ⟨7211, 7210, 77, 1013, rfl, rfl, by decide +kernel, by decide +kernel, ⟨rfl, by decide +kernel, Or.inr rfl⟩⟩
set_option maxRecDepth 20000 in
theorem mm_cp195 : mm_cP 195 := ⟨7026, 7025, 54, 1013, rfl, rfl, by decide +kernel, by decide +kernel, ⟨rfl, by decide +kernel, Or.inr rfl⟩⟩
set_option maxRecDepth 20000 in
theorem mm_cp196 : mm_cP 196 := ⟨7022, 7021, 53, 1013, rfl, rfl, by decide +kernel, by decide +kernel, ⟨rfl, by decide +kernel, Or.inr rfl⟩⟩
set_option maxRecDepth 20000 in
theorem mm_cp197 : mm_cP 197 := ⟨7042, 7041, 58, 1013, rfl, rfl, by decide +kernel, by decide +kernel, ⟨rfl, by decide +kernel, Or.inr rfl⟩⟩
set_option maxRecDepth 20000 in
theorem mm_cp198 : mm_cP 198 := ⟨7038, 7037, 57, 1013, rfl, rfl, by decide +kernel, by decide +kernel, ⟨rfl, by decide +kernel, Or.inr rfl⟩⟩
set_option maxRecDepth 20000 in
theorem mm_cp199 : mm_cP 199 := ⟨7034, 7033, 56, 1013, rfl, rfl, by decide +kernel, by decide +kernel, ⟨rfl, by decide +kernel, Or.inr rfl⟩⟩
set_option maxRecDepth 20000 in
theorem mm_cp200 : mm_cP 200 := ⟨7046, 7045, 59, 1013, rfl, rfl, by decide +kernel, by decide +kernel, ⟨rfl, by decide +kernel, Or.inr rfl⟩⟩
set_option maxRecDepth 20000 in
theorem mm_cp201 : mm_cP 201 := ⟨7030, 7029, 55, 1013, rfl, rfl, by decide +kernel, by decide +kernel, ⟨rfl, by decide +kernel, Or.inr rfl⟩⟩
set_option maxRecDepth 20000 in
theorem mm_cp202 : mm_cP 202 := ⟨5238, 5237, 33, 1013, rfl, rfl, by decide +kernel, by decide +kernel, ⟨rfl, by decide +kernel, Or.inr rfl⟩⟩
set_option maxRecDepth 20000 in
theorem mm_cp203 : mm_cP 203 := ⟨6196, 6195, 43, 1013, rfl, rfl, by decide +kernel, by decide +kernel, ⟨rfl, by decide +kernel, Or.inr rfl⟩⟩
set_option maxRecDepth 20000 in
theorem mm_cp204 : mm_cP 204 := ⟨6192, 6191, 42, 1013, rfl, rfl, by decide +kernel, by decide +kernel, ⟨rfl, by decide +kernel, Or.inr rfl⟩⟩
set_option maxRecDepth 20000 in
theorem mm_cp205 : mm_cP 205 := ⟨7014, 7013, 51, 1013, rfl, rfl, by decide +kernel, by decide +kernel, ⟨rfl, by decide +kernel, Or.inr rfl⟩⟩
set_option maxRecDepth 20000 in
theorem mm_cp206 : mm_cP 206 := ⟨7050, 7049, 60, 1013, rfl, rfl, by decide +kernel, by decide +kernel, ⟨rfl, by decide +kernel, Or.inr rfl⟩⟩
set_option maxRecDepth 20000 in
theorem mm_cp207 : mm_cP 207 := ⟨7058, 7057, 61, 1013, rfl, rfl, by decide +kernel, by decide +kernel, ⟨rfl, by decide +kernel, Or.inr rfl⟩⟩
set_option maxRecDepth 20000 in
theorem mm_cp208 : mm_cP 208 := ⟨6002, 6001, 34, 1013, rfl, rfl, by decide +kernel, by decide +kernel, ⟨rfl, by decide +kernel, Or.inr rfl⟩⟩
set_option maxRecDepth 20000 in
theorem mm_cp209 : mm_cP 209 := ⟨6212, 6211, 47, 1013, rfl, rfl, by decide +kernel, by decide +kernel, ⟨rfl, by decide +kernel, Or.inr rfl⟩⟩
set_option maxRecDepth 20000 in
theorem mm_cp210 : mm_cP 210 := ⟨6170, 6169, 38, 1013, rfl, rfl, by decide +kernel, by decide +kernel, ⟨rfl, by decide +kernel, Or.inr rfl⟩⟩
set_option maxRecDepth 20000 in
theorem mm_cp211 : mm_cP 211 := ⟨6188, 6187, 41, 1013, rfl, rfl, by decide +kernel, by decide +kernel, ⟨rfl, by decide +kernel, Or.inr rfl⟩⟩
set_option maxRecDepth 20000 in
theorem mm_cp212 : mm_cP 212 := ⟨6162, 6160, 6161, 1013, rfl, rfl, by decide +kernel, by decide +kernel, ⟨rfl, by decide +kernel, Or.inr rfl⟩⟩
set_option maxRecDepth 20000 in
theorem mm_cp213 : mm_cP 213 := ⟨6184, 6183, 40, 1013, rfl, rfl, by decide +kernel, by decide +kernel, ⟨rfl, by decide +kernel, Or.inr rfl⟩⟩
set_option maxRecDepth 20000 in
theorem mm_cp214 : mm_cP 214 := ⟨6216, 6214, 6215, 1013, rfl, rfl, by decide +kernel, by decide +kernel, ⟨rfl, by decide +kernel, Or.inr rfl⟩⟩
set_option maxRecDepth 20000 in
theorem mm_cp215 : mm_cP 215 := ⟨6220, 6218, 6219, 1013, rfl, rfl, by decide +kernel, by decide +kernel, ⟨rfl, by decide +kernel, Or.inr rfl⟩⟩
set_option maxRecDepth 20000 in
theorem mm_cp216 : mm_cP 216 := ⟨6224, 6222, 6223, 1013, rfl, rfl, by decide +kernel, by decide +kernel, ⟨rfl, by decide +kernel, Or.inr rfl⟩⟩
set_option maxRecDepth 20000 in
theorem mm_cp217 : mm_cP 217 := ⟨6236, 6234, 6235, 1013, rfl, rfl, by decide +kernel, by decide +kernel, ⟨rfl, by decide +kernel, Or.inr rfl⟩⟩
set_option maxRecDepth 20000 in
theorem mm_cp218 : mm_cP 218 := ⟨7000, 6238, 6239, 1013, rfl, rfl, by decide +kernel, by decide +kernel, ⟨rfl, by decide +kernel, Or.inr rfl⟩⟩
set_option maxRecDepth 20000 in
theorem mm_cp219 : mm_cP 219 := ⟨7018, 7017, 52, 1013, rfl, rfl, by decide +kernel, by decide +kernel, ⟨rfl, by decide +kernel, Or.inr rfl⟩⟩
set_option maxRecDepth 20000 in
theorem mm_cp220 : mm_cP 220 := ⟨7004, 7002, 7003, 1013, rfl, rfl, by decide +kernel, by decide +kernel, ⟨rfl, by decide +kernel, Or.inr rfl⟩⟩
set_option maxRecDepth 20000 in
theorem mm_cp221 : mm_cP 221 := ⟨7054, 7052, 7053, 1013, rfl, rfl, by decide +kernel, by decide +kernel, ⟨rfl, by decide +kernel, Or.inr rfl⟩⟩
set_option maxRecDepth 20000 in
theorem mm_cp222 : mm_cP 222 := ⟨7062, 7060, 7061, 1013, rfl, rfl, by decide +kernel, by decide +kernel, ⟨rfl, by decide +kernel, Or.inr rfl⟩⟩
set_option maxRecDepth 20000 in
theorem mm_cp223 : mm_cP 223 := ⟨7066, 7064, 7065, 1013, rfl, rfl, by decide +kernel, by decide +kernel, ⟨rfl, by decide +kernel, Or.inr rfl⟩⟩
set_option maxRecDepth 20000 in
theorem mm_cp224 : mm_cP 224 := ⟨7078, 7077, 63, 1013, rfl, rfl, by decide +kernel, by decide +kernel, ⟨rfl, by decide +kernel, Or.inr rfl⟩⟩
set_option maxRecDepth 20000 in
theorem mm_cp225 : mm_cP 225 := ⟨7074, 7072, 7073, 1013, rfl, rfl, by decide +kernel, by decide +kernel, ⟨rfl, by decide +kernel, Or.inr rfl⟩⟩
set_option maxRecDepth 20000 in
theorem mm_cp226 : mm_cP 226 := ⟨7098, 7097, 67, 1013, rfl, rfl, by decide +kernel, by decide +kernel, ⟨rfl, by decide +kernel, Or.inr rfl⟩⟩
set_option maxRecDepth 20000 in
theorem mm_cp227 : mm_cP 227 := ⟨7094, 7092, 7093, 1013, rfl, rfl, by decide +kernel, by decide +kernel, ⟨rfl, by decide +kernel, Or.inr rfl⟩⟩
set_option maxRecDepth 20000 in
theorem mm_cp228 : mm_cP 228 := ⟨7102, 7100, 7101, 1013, rfl, rfl, by decide +kernel, by decide +kernel, ⟨rfl, by decide +kernel, Or.inr rfl⟩⟩
set_option maxRecDepth 20000 in
theorem mm_cp229 : mm_cP 229 := ⟨7106, 7104, 7105, 1013, rfl, rfl, by decide +kernel, by decide +kernel, ⟨rfl, by decide +kernel, Or.inr rfl⟩⟩
set_option maxRecDepth 20000 in
theorem mm_cp230 : mm_cP 230 := ⟨7110, 7108, 7109, 1013, rfl, rfl, by decide +kernel, by decide +kernel, ⟨rfl, by decide +kernel, Or.inr rfl⟩⟩
set_option maxRecDepth 20000 in
theorem mm_cp231 : mm_cP 231 := ⟨7120, 7119, 68, 1013, rfl, rfl, by decide +kernel, by decide +kernel, ⟨rfl, by decide +kernel, Or.inr rfl⟩⟩
set_option maxRecDepth 20000 in
theorem mm_cp232 : mm_cP 232 := ⟨7115, 7113, 7114, 1013, rfl, rfl, by decide +kernel, by decide +kernel, ⟨rfl, by decide +kernel, Or.inr rfl⟩⟩
set_option maxRecDepth 20000 in
theorem mm_cp233 : mm_cP 233 := ⟨7133, 7132, 70, 1013, rfl, rfl, by decide +kernel, by decide +kernel, ⟨rfl, by decide +kernel, Or.inr rfl⟩⟩
set_option maxRecDepth 20000 in
theorem mm_cp234 : mm_cP 234 := ⟨7129, 7128, 69, 1013, rfl, rfl, by decide +kernel, by decide +kernel, ⟨rfl, by decide +kernel, Or.inr rfl⟩⟩
set_option maxRecDepth 20000 in
theorem mm_cp235 : mm_cP 235 := ⟨7124, 7122, 7123, 1013, rfl, rfl, by decide +kernel, by decide +kernel, ⟨rfl, by decide +kernel, Or.inr rfl⟩⟩
set_option maxRecDepth 20000 in
theorem mm_cp236 : mm_cP 236 := ⟨7137, 7135, 7136, 1013, rfl, rfl, by decide +kernel, by decide +kernel, ⟨rfl, by decide +kernel, Or.inr rfl⟩⟩
set_option maxRecDepth 20000 in
theorem mm_cp237 : mm_cP 237 := ⟨7141, 7139, 7140, 1013, rfl, rfl, by decide +kernel, by decide +kernel, ⟨rfl, by decide +kernel, Or.inr rfl⟩⟩
set_option maxRecDepth 20000 in
theorem mm_cp238 : mm_cP 238 := ⟨7145, 7143, 7144, 1013, rfl, rfl, by decide +kernel, by decide +kernel, ⟨rfl, by decide +kernel, Or.inr rfl⟩⟩
set_option maxRecDepth 20000 in
theorem mm_cp239 : mm_cP 239 := ⟨7149, 7147, 7148, 1013, rfl, rfl, by decide +kernel, by decide +kernel, ⟨rfl, by decide +kernel, Or.inr rfl⟩⟩
set_option maxRecDepth 20000 in
theorem mm_cp240 : mm_cP 240 := ⟨7153, 7151, 7152, 1013, rfl, rfl, by decide +kernel, by decide +kernel, ⟨rfl, by decide +kernel, Or.inr rfl⟩⟩
set_option maxRecDepth 20000 in
theorem mm_cp241 : mm_cP 241 := ⟨7162, 7160, 7161, 1013, rfl, rfl, by decide +kernel, by decide +kernel, ⟨rfl, by decide +kernel, Or.inr rfl⟩⟩
set_option maxRecDepth 20000 in
theorem mm_cp242 : mm_cP 242 := ⟨7170, 7169, 72, 1013, rfl, rfl, by decide +kernel, by decide +kernel, ⟨rfl, by decide +kernel, Or.inr rfl⟩⟩
set_option maxRecDepth 20000 in
theorem mm_cp243 : mm_cP 243 := ⟨7166, 7164, 7165, 1013, rfl, rfl, by decide +kernel, by decide +kernel, ⟨rfl, by decide +kernel, Or.inr rfl⟩⟩
set_option maxRecDepth 20000 in
theorem mm_cp244 : mm_cP 244 := ⟨7178, 7176, 7177, 1013, rfl, rfl, by decide +kernel, by decide +kernel, ⟨rfl, by decide +kernel, Or.inr rfl⟩⟩
set_option maxRecDepth 20000 in
theorem mm_cp245 : mm_cP 245 := ⟨7186, 7185, 74, 1013, rfl, rfl, by decide +kernel, by decide +kernel, ⟨rfl, by decide +kernel, Or.inr rfl⟩⟩
set_option maxRecDepth 20000 in
theorem mm_cp246 : mm_cP 246 := ⟨7182, 7180, 7181, 1013, rfl, rfl, by decide +kernel, by decide +kernel, ⟨rfl, by decide +kernel, Or.inr rfl⟩⟩
set_option maxRecDepth 20000 in
theorem mm_cp247 : mm_cP 247 := ⟨7190, 7188, 7189, 1013, rfl, rfl, by decide +kernel, by decide +kernel, ⟨rfl, by decide +kernel, Or.inr rfl⟩⟩
set_option maxRecDepth 20000 in
theorem mm_cp248 : mm_cP 248 := ⟨7199, 7198, 75, 1013, rfl, rfl, by decide +kernel, by decide +kernel, ⟨rfl, by decide +kernel, Or.inr rfl⟩⟩
set_option maxRecDepth 20000 in
theorem mm_cp249 : mm_cP 249 := ⟨7227, 7226, 79, 1013, rfl, rfl, by decide +kernel, by decide +kernel, ⟨rfl, by decide +kernel, Or.inr rfl⟩⟩
set_option maxRecDepth 20000 in
theorem mm_cp250 : mm_cP 250 := ⟨7195, 7193, 7194, 1013, rfl, rfl, by decide +kernel, by decide +kernel, ⟨rfl, by decide +kernel, Or.inr rfl⟩⟩
set_option maxRecDepth 20000 in
theorem mm_cp251 : mm_cP 251 := ⟨7203, 7201, 7202, 1013, rfl, rfl, by decide +kernel, by decide +kernel, ⟨rfl, by decide +kernel, Or.inr rfl⟩⟩
set_option maxRecDepth 20000 in
theorem mm_cp252 : mm_cP 252 := ⟨7219, 7217, 7218, 1013, rfl, rfl, by decide +kernel, by decide +kernel, ⟨rfl, by decide +kernel, Or.inr rfl⟩⟩
set_option maxRecDepth 20000 in
theorem mm_cp253 : mm_cP 253 := ⟨7223, 7221, 7222, 1013, rfl, rfl, by decide +kernel, by decide +kernel, ⟨rfl, by decide +kernel, Or.inr rfl⟩⟩
set_option maxRecDepth 20000 in
theorem mm_cp254 : mm_cP 254 := ⟨7231, 7229, 7230, 1013, rfl, rfl, by decide +kernel, by decide +kernel, ⟨rfl, by decide +kernel, Or.inr rfl⟩⟩
set_option maxRecDepth 20000 in
theorem mm_cp255 : mm_cP 255 := ⟨7235, 7233, 7234, 1013, rfl, rfl, by decide +kernel, by decide +kernel, ⟨rfl, by decide +kernel, Or.inr rfl⟩⟩
set_option maxRecDepth 20000 in
theorem mm_cp256 : mm_cP 256 := ⟨7239, 7237, 7238, 1013, rfl, rfl, by decide +kernel, by decide +kernel, ⟨rfl, by decide +kernel, Or.inr rfl⟩⟩
set_option maxRecDepth 20000 in
theorem mm_cp257 : mm_cP 257 := ⟨8003, 8001, 8002, 1013, rfl, rfl, by decide +kernel, by decide +kernel, ⟨rfl, by decide +kernel, Or.inr rfl⟩⟩
set_option maxRecDepth 20000 in
theorem mm_cp258 : mm_cP 258 := ⟨8011, 8010, 80, 1013, rfl, rfl, by decide +kernel, by decide +kernel, ⟨rfl, by decide +kernel, Or.inr rfl⟩⟩
set_option maxRecDepth 20000 in
theorem mm_cp259 : mm_cP 259 := ⟨8007, 8005, 8006, 1013, rfl, rfl, by decide +kernel, by decide +kernel, ⟨rfl, by decide +kernel, Or.inr rfl⟩⟩
set_option maxRecDepth 20000 in
theorem mm_cp260 : mm_cP 260 := ⟨8015, 8013, 8014, 1013, rfl, rfl, by decide +kernel, by decide +kernel, ⟨rfl, by decide +kernel, Or.inr rfl⟩⟩
set_option maxRecDepth 20000 in
theorem mm_cp261 : mm_cP 261 := ⟨8027, 8026, 82, 1013, rfl, rfl, by decide +kernel, by decide +kernel, ⟨rfl, by decide +kernel, Or.inr rfl⟩⟩
set_option maxRecDepth 20000 in
theorem mm_cp262 : mm_cP 262 := ⟨8023, 8022, 81, 1013, rfl, rfl, by decide +kernel, by decide +kernel, ⟨rfl, by decide +kernel, Or.inr rfl⟩⟩
set_option maxRecDepth 20000 in
theorem mm_cp263 : mm_cP 263 := ⟨8031, 8030, 83, 1013, rfl, rfl, by decide +kernel, by decide +kernel, ⟨rfl, by decide +kernel, Or.inr rfl⟩⟩
set_option maxRecDepth 20000 in
theorem mm_cp264 : mm_cP 264 := ⟨8019, 8017, 8018, 1013, rfl, rfl, by decide +kernel, by decide +kernel, ⟨rfl, by decide +kernel, Or.inr rfl⟩⟩
set_option maxRecDepth 20000 in
theorem mm_cp265 : mm_cP 265 := ⟨8035, 8033, 8034, 1013, rfl, rfl, by decide +kernel, by decide +kernel, ⟨rfl, by decide +kernel, Or.inr rfl⟩⟩
set_option maxRecDepth 20000 in
theorem mm_cp266 : mm_cP 266 := ⟨8039, 8037, 8038, 1013, rfl, rfl, by decide +kernel, by decide +kernel, ⟨rfl, by decide +kernel, Or.inr rfl⟩⟩
set_option maxRecDepth 20000 in
theorem mm_cp267 : mm_cP 267 := ⟨8043, 8041, 8042, 1013, rfl, rfl, by decide +kernel, by decide +kernel, ⟨rfl, by decide +kernel, Or.inr rfl⟩⟩
set_option maxRecDepth 20000 in
theorem mm_cp268 : mm_cP 268 := ⟨8052, 8051, 84, 1013, rfl, rfl, by decide +kernel, by decide +kernel, ⟨rfl, by decide +kernel, Or.inr rfl⟩⟩
set_option maxRecDepth 20000 in
theorem mm_cp269 : mm_cP 269 := ⟨8057, 8056, 85, 1013, rfl, rfl, by decide +kernel, by decide +kernel, ⟨rfl, by decide +kernel, Or.inr rfl⟩⟩
set_option maxRecDepth 20000 in
theorem mm_cp270 : mm_cP 270 := ⟨8048, 8046, 8047, 1013, rfl, rfl, by decide +kernel, by decide +kernel, ⟨rfl, by decide +kernel, Or.inr rfl⟩⟩
set_option maxRecDepth 20000 in
theorem mm_cp271 : mm_cP 271 := ⟨8061, 8059, 8060, 1013, rfl, rfl, by decide +kernel, by decide +kernel, ⟨rfl, by decide +kernel, Or.inr rfl⟩⟩
set_option maxRecDepth 20000 in
theorem mm_cp272 : mm_cP 272 := ⟨8065, 8063, 8064, 1013, rfl, rfl, by decide +kernel, by decide +kernel, ⟨rfl, by decide +kernel, Or.inr rfl⟩⟩
set_option maxRecDepth 20000 in
theorem mm_cp273 : mm_cP 273 := ⟨8069, 8067, 8068, 1013, rfl, rfl, by decide +kernel, by decide +kernel, ⟨rfl, by decide +kernel, Or.inr rfl⟩⟩
set_option maxRecDepth 20000 in
theorem mm_cp274 : mm_cP 274 := ⟨8073, 8071, 8072, 1013, rfl, rfl, by decide +kernel, by decide +kernel, ⟨rfl, by decide +kernel, Or.inr rfl⟩⟩
set_option maxRecDepth 20000 in
theorem mm_cp275 : mm_cP 275 := ⟨8077, 8075, 8076, 1013, rfl, rfl, by decide +kernel, by decide +kernel, ⟨rfl, by decide +kernel, Or.inr rfl⟩⟩
set_option maxRecDepth 20000 in
theorem mm_cp276 : mm_cP 276 := ⟨8081, 8079, 8080, 1013, rfl, rfl, by decide +kernel, by decide +kernel, ⟨rfl, by decide +kernel, Or.inr rfl⟩⟩
set_option maxRecDepth 20000 in
theorem mm_cp277 : mm_cP 277 := ⟨8085, 8083, 8084, 1013, rfl, rfl, by decide +kernel, by decide +kernel, ⟨rfl, by decide +kernel, Or.inr rfl⟩⟩
set_option maxRecDepth 20000 in
theorem mm_cp278 : mm_cP 278 := ⟨8105, 8104, 89, 1013, rfl, rfl, by decide +kernel, by decide +kernel, ⟨rfl, by decide +kernel, Or.inr rfl⟩⟩
set_option maxRecDepth 20000 in
theorem mm_cp279 : mm_cP 279 := ⟨8108, 8107, 0, 1013, rfl, rfl, by decide +kernel, by decide +kernel, ⟨rfl, by decide +kernel⟩⟩
set_option maxRecDepth 20000 in
theorem mm_cp280 : mm_cP 280 := ⟨8127, 8126, 0, 1013, rfl, rfl, by decide +kernel, by decide +kernel, ⟨rfl, by decide +kernel⟩⟩
set_option maxRecDepth 20000 in
theorem mm_cp281 : mm_cP 281 := ⟨8147, 8146, 0, 1013, rfl, rfl, by decide +kernel, by decide +kernel, ⟨rfl, by decide +kernel⟩⟩
set_option maxRecDepth 20000 in
theorem mm_cp282 : mm_cP 282 := ⟨8101, 8100, 88, 1013, rfl, rfl, by decide +kernel, by decide +kernel, ⟨rfl, by decide +kernel, Or.inr rfl⟩⟩
set_option maxRecDepth 20000 in
theorem mm_cp283 : mm_cP 283 := ⟨8165, 8164, 0, 1013, rfl, rfl, by decide +kernel, by decide +kernel, ⟨rfl, by decide +kernel⟩⟩
set_option maxRecDepth 20000 in
theorem mm_cp284 : mm_cP 284 := ⟨8185, 8184, 93, 1013, rfl, rfl, by decide +kernel, by decide +kernel, ⟨rfl, by decide +kernel, Or.inr rfl⟩⟩
set_option maxRecDepth 20000 in
theorem mm_cp285 : mm_cP 285 := ⟨8205, 8204, 94, 1013, rfl, rfl, by decide +kernel, by decide +kernel, ⟨rfl, by decide +kernel, Or.inr rfl⟩⟩
set_option maxRecDepth 20000 in
theorem mm_cp286 : mm_cP 286 := ⟨8225, 8224, 95, 1013, rfl, rfl, by decide +kernel, by decide +kernel, ⟨rfl, by decide +kernel, Or.inr rfl⟩⟩
set_option maxRecDepth 20000 in
theorem mm_cp287 : mm_cP 287 := ⟨8097, 8096, 87, 1013, rfl, rfl, by decide +kernel, by decide +kernel, ⟨rfl, by decide +kernel, Or.inr rfl⟩⟩
set_option maxRecDepth 20000 in
theorem mm_cp288 : mm_cP 288 := ⟨8179, 8178, 92, 1013, rfl, rfl, by decide +kernel, by decide +kernel, ⟨rfl, by decide +kernel, Or.inr rfl⟩⟩
set_option maxRecDepth 20000 in
theorem mm_cp289 : mm_cP 289 := ⟨8175, 8174, 91, 1013, rfl, rfl, by decide +kernel, by decide +kernel, ⟨rfl, by decide +kernel, Or.inr rfl⟩⟩
set_option maxRecDepth 20000 in
theorem mm_cp290 : mm_cP 290 := ⟨8169, 8168, 90, 1013, rfl, rfl, by decide +kernel, by decide +kernel, ⟨rfl, by decide +kernel, Or.inr rfl⟩⟩
set_option maxRecDepth 20000 in
theorem mm_cp291 : mm_cP 291 := ⟨9004, 9003, 96, 1013, rfl, rfl, by decide +kernel, by decide +kernel, ⟨rfl, by decide +kernel, Or.inr rfl⟩⟩
set_option maxRecDepth 20000 in
theorem mm_cp292 : mm_cP 292 := ⟨8093, 8092, 86, 1013, rfl, rfl, by decide +kernel, by decide +kernel, ⟨rfl, by decide +kernel, Or.inr rfl⟩⟩
set_option maxRecDepth 20000 in
theorem mm_cp293 : mm_cP 293 := ⟨8089, 8087, 8088, 1013, rfl, rfl, by decide +kernel, by decide +kernel, ⟨rfl, by decide +kernel, Or.inr rfl⟩⟩
set_option maxRecDepth 20000 in
theorem mm_cp294 : mm_cP 294 := ⟨9009, 9007, 9008, 1013, rfl, rfl, by decide +kernel, by decide +kernel, ⟨rfl, by decide +kernel, Or.inr rfl⟩⟩
set_option maxRecDepth 20000 in
theorem mm_cp295 : mm_cP 295 := ⟨9013, 9011, 9012, 1013, rfl, rfl, by decide +kernel, by decide +kernel, ⟨rfl, by decide +kernel, Or.inr rfl⟩⟩
set_option maxRecDepth 20000 in
theorem mm_cp296 : mm_cP 296 := ⟨5225, 5224, 0, 1000, rfl, rfl, by decide +kernel, by decide +kernel, ⟨rfl, by decide +kernel⟩⟩
set_option maxRecDepth 20000 in
theorem mm_cp300 : mm_cP 300 := ⟨5046, 5044, 5045, 1014, rfl, rfl, by decide +kernel, by decide +kernel, ⟨rfl, by decide +kernel, Or.inr rfl⟩⟩
set_option maxRecDepth 20000 in
theorem mm_cp301 : mm_cP 301 := ⟨5050, 5048, 5049, 1014, rfl, rfl, by decide +kernel, by decide +kernel, ⟨rfl, by decide +kernel, Or.inr rfl⟩⟩
set_option maxRecDepth 20000 in
theorem mm_cp302 : mm_cP 302 := ⟨5060, 5058, 5059, 1014, rfl, rfl, by decide +kernel, by decide +kernel, ⟨rfl, by decide +kernel, Or.inr rfl⟩⟩
set_option maxRecDepth 20000 in
theorem mm_cp303 : mm_cP 303 := ⟨5056, 5054, 5055, 1014, rfl, rfl, by decide +kernel, by decide +kernel, ⟨rfl, by decide +kernel, Or.inr rfl⟩⟩
set_option maxRecDepth 20000 in
theorem mm_cp304 : mm_cP 304 := ⟨5066, 5065, 0, 1014, rfl, rfl, by decide +kernel, by decide +kernel, ⟨rfl, by decide +kernel⟩⟩
set_option maxRecDepth 20000 in
theorem mm_cp305 : mm_cP 305 := ⟨5063, 5062, 0, 1015, rfl, rfl, by decide +kernel, by decide +kernel, ⟨rfl, by decide +kernel⟩⟩
set_option maxRecDepth 20000 in
theorem mm_cp306 : mm_cP 306 := ⟨5071, 5070, 0, 1016, rfl, rfl, by decide +kernel, by decide +kernel, ⟨rfl, by decide +kernel⟩⟩
theorem mm_cpA : ∀ a, a < 297 ∨ 299 < a ∧ a < 307 → mm_cP a
  | 0, _ => mm_cp0
  | 1, _ => mm_cp1
  | 2, _ => mm_cp2
  | 3, _ => mm_cp3
  | 4, _ => mm_cp4
  | 5, _ => mm_cp5
  | 6, _ => mm_cp6
  | 7, _ => mm_cp7
  | 8, _ => mm_cp8
  | 9, _ => mm_cp9
  | 10, _ => mm_cp10
  | 11, _ => mm_cp11
  | 12, _ => mm_cp12
  | 13, _ => mm_cp13
  | 14, _ => mm_cp14
  | 15, _ => mm_cp15
  | 16, _ => mm_cp16
  | 17, _ => mm_cp17
  | 18, _ => mm_cp18
  | 19, _ => mm_cp19
  | 20, _ => mm_cp20
  | 21, _ => mm_cp21
  | 22, _ => mm_cp22
  | 23, _ => mm_cp23
  | 24, _ => mm_cp24
  | 25, _ => mm_cp25
  | 26, _ => mm_cp26
  | 27, _ => mm_cp27
  | 28, _ => mm_cp28
  | 29, _ => mm_cp29
  | 30, _ => mm_cp30
  | 31, _ => mm_cp31
  | 32, _ => mm_cp32
  | 33, _ => mm_cp33
  | 34, _ => mm_cp34
  | 35, _ => mm_cp35
  | 36, _ => mm_cp36
  | 37, _ => mm_cp37
  | 38, _ => mm_cp38
  | 39, _ => mm_cp39
  | 40, _ => mm_cp40
  | 41, _ => mm_cp41
  | 42, _ => mm_cp42
  | 43, _ => mm_cp43
  | 44, _ => mm_cp44
  | 45, _ => mm_cp45
  | 46, _ => mm_cp46
  | 47, _ => mm_cp47
  | 48, _ => mm_cp48
  | 49, _ => mm_cp49
  | 50, _ => mm_cp50
  | 51, _ => mm_cp51
  | 52, _ => mm_cp52
  | 53, _ => mm_cp53
  | 54, _ => mm_cp54
  | 55, _ => mm_cp55
  | 56, _ => mm_cp56
  | 57, _ => mm_cp57
  | 58, _ => mm_cp58
  | 59, _ => mm_cp59
  | 60, _ => mm_cp60
  | 61, _ => mm_cp61
  | 62, _ => mm_cp62
  | 63, _ => mm_cp63
  | 64, _ => mm_cp64
  | 65, _ => mm_cp65
  | 66, _ => mm_cp66
  | 67, _ => mm_cp67
  | 68, _ => mm_cp68
  | 69, _ => mm_cp69
  | 70, _ => mm_cp70
  | 71, _ => mm_cp71
  | 72, _ => mm_cp72
  | 73, _ => mm_cp73
  | 74, _ => mm_cp74
  | 75, _ => mm_cp75
  | 76, _ => mm_cp76
  | 77, _ => mm_cp77
  | 78, _ => mm_cp78
  | 79, _ => mm_cp79
  | 80, _ => mm_cp80
  | 81, _ => mm_cp81
  | 82, _ => mm_cp82
  | 83, _ => mm_cp83
  | 84, _ => mm_cp84
  | 85, _ => mm_cp85
  | 86, _ => mm_cp86
  | 87, _ => mm_cp87
  | 88, _ => mm_cp88
  | 89, _ => mm_cp89
  | 90, _ => mm_cp90
  | 91, _ => mm_cp91
  | 92, _ => mm_cp92
  | 93, _ => mm_cp93
  | 94, _ => mm_cp94
  | 95, _ => mm_cp95
  | 96, _ => mm_cp96
  | 97, _ => mm_cp97
  | 98, _ => mm_cp98
  | 99, _ => mm_cp99
  | 100, _ => mm_cp100
  | 101, _ => mm_cp101
  | 102, _ => mm_cp102
  | 103, _ => mm_cp103
  | 104, _ => mm_cp104
  | 105, _ => mm_cp105
  | 106, _ => mm_cp106
  | 107, _ => mm_cp107
  | 108, _ => mm_cp108
  | 109, _ => mm_cp109
  | 110, _ => mm_cp110
  | 111, _ => mm_cp111
  | 112, _ => mm_cp112
  | 113, _ => mm_cp113
  | 114, _ => mm_cp114
  | 115, _ => mm_cp115
  | 116, _ => mm_cp116
  | 117, _ => mm_cp117
  | 118, _ => mm_cp118
  | 119, _ => mm_cp119
  | 120, _ => mm_cp120
  | 121, _ => mm_cp121
  | 122, _ => mm_cp122
  | 123, _ => mm_cp123
  | 124, _ => mm_cp124
  | 125, _ => mm_cp125
  | 126, _ => mm_cp126
  | 127, _ => mm_cp127
  | 128, _ => mm_cp128
  | 129, _ => mm_cp129
  | 130, _ => mm_cp130
  | 131, _ => mm_cp131
  | 132, _ => mm_cp132
  | 133, _ => mm_cp133
  | 134, _ => mm_cp134
  | 135, _ => mm_cp135
  | 136, _ => mm_cp136
  | 137, _ => mm_cp137
  | 138, _ => mm_cp138
  | 139, _ => mm_cp139
  | 140, _ => mm_cp140
  | 141, _ => mm_cp141
  | 142, _ => mm_cp142
  | 143, _ => mm_cp143
  | 144, _ => mm_cp144
  | 145, _ => mm_cp145
  | 146, _ => mm_cp146
  | 147, _ => mm_cp147
  | 148, _ => mm_cp148
  | 149, _ => mm_cp149
  | 150, _ => mm_cp150
  | 151, _ => mm_cp151
  | 152, _ => mm_cp152
  | 153, _ => mm_cp153
  | 154, _ => mm_cp154
  | 155, _ => mm_cp155
  | 156, _ => mm_cp156
  | 157, _ => mm_cp157
  | 158, _ => mm_cp158
  | 159, _ => mm_cp159
  | 160, _ => mm_cp160
  | 161, _ => mm_cp161
  | 162, _ => mm_cp162
  | 163, _ => mm_cp163
  | 164, _ => mm_cp164
  | 165, _ => mm_cp165
  | 166, _ => mm_cp166
  | 167, _ => mm_cp167
  | 168, _ => mm_cp168
  | 169, _ => mm_cp169
  | 170, _ => mm_cp170
  | 171, _ => mm_cp171
  | 172, _ => mm_cp172
  | 173, _ => mm_cp173
  | 174, _ => mm_cp174
  | 175, _ => mm_cp175
  | 176, _ => mm_cp176
  | 177, _ => mm_cp177
  | 178, _ => mm_cp178
  | 179, _ => mm_cp179
  | 180, _ => mm_cp180
  | 181, _ => mm_cp181
  | 182, _ => mm_cp182
  | 183, _ => mm_cp183
  | 184, _ => mm_cp184
  | 185, _ => mm_cp185
  | 186, _ => mm_cp186
  | 187, _ => mm_cp187
  | 188, _ => mm_cp188
  | 189, _ => mm_cp189
  | 190, _ => mm_cp190
  | 191, _ => mm_cp191
  | 192, _ => mm_cp192
  | 193, _ => mm_cp193
  | 194, _ => mm_cp194
  | 195, _ => mm_cp195
  | 196, _ => mm_cp196
  | 197, _ => mm_cp197
  | 198, _ => mm_cp198
  | 199, _ => mm_cp199
  | 200, _ => mm_cp200
  | 201, _ => mm_cp201
  | 202, _ => mm_cp202
  | 203, _ => mm_cp203
  | 204, _ => mm_cp204
  | 205, _ => mm_cp205
  | 206, _ => mm_cp206
  | 207, _ => mm_cp207
  | 208, _ => mm_cp208
  | 209, _ => mm_cp209
  | 210, _ => mm_cp210
  | 211, _ => mm_cp211
  | 212, _ => mm_cp212
  | 213, _ => mm_cp213
  | 214, _ => mm_cp214
  | 215, _ => mm_cp215
  | 216, _ => mm_cp216
  | 217, _ => mm_cp217
  | 218, _ => mm_cp218
  | 219, _ => mm_cp219
  | 220, _ => mm_cp220
  | 221, _ => mm_cp221
  | 222, _ => mm_cp222
  | 223, _ => mm_cp223
  | 224, _ => mm_cp224
  | 225, _ => mm_cp225
  | 226, _ => mm_cp226
  | 227, _ => mm_cp227
  | 228, _ => mm_cp228
  | 229, _ => mm_cp229
  | 230, _ => mm_cp230
  | 231, _ => mm_cp231
  | 232, _ => mm_cp232
  | 233, _ => mm_cp233
  | 234, _ => mm_cp234
  | 235, _ => mm_cp235
  | 236, _ => mm_cp236
  | 237, _ => mm_cp237
  | 238, _ => mm_cp238
  | 239, _ => mm_cp239
  | 240, _ => mm_cp240
  | 241, _ => mm_cp241
  | 242, _ => mm_cp242
  | 243, _ => mm_cp243
  | 244, _ => mm_cp244
  | 245, _ => mm_cp245
  | 246, _ => mm_cp246
  | 247, _ => mm_cp247
  | 248, _ => mm_cp248
  | 249, _ => mm_cp249
  | 250, _ => mm_cp250
  | 251, _ => mm_cp251
  | 252, _ => mm_cp252
  | 253, _ => mm_cp253
  | 254, _ => mm_cp254
  | 255, _ => mm_cp255
  | 256, _ => mm_cp256
  | 257, _ => mm_cp257
  | 258, _ => mm_cp258
  | 259, _ => mm_cp259
  | 260, _ => mm_cp260
  | 261, _ => mm_cp261
  | 262, _ => mm_cp262
  | 263, _ => mm_cp263
  | 264, _ => mm_cp264
  | 265, _ => mm_cp265
  | 266, _ => mm_cp266
  | 267, _ => mm_cp267
  | 268, _ => mm_cp268
  | 269, _ => mm_cp269
  | 270, _ => mm_cp270
  | 271, _ => mm_cp271
  | 272, _ => mm_cp272
  | 273, _ => mm_cp273
  | 274, _ => mm_cp274
  | 275, _ => mm_cp275
  | 276, _ => mm_cp276
  | 277, _ => mm_cp277
  | 278, _ => mm_cp278
  | 279, _ => mm_cp279
  | 280, _ => mm_cp280
  | 281, _ => mm_cp281
  | 282, _ => mm_cp282
  | 283, _ => mm_cp283
  | 284, _ => mm_cp284
  | 285, _ => mm_cp285
  | 286, _ => mm_cp286
  | 287, _ => mm_cp287
  | 288, _ => mm_cp288
  | 289, _ => mm_cp289
  | 290, _ => mm_cp290
  | 291, _ => mm_cp291
  | 292, _ => mm_cp292
  | 293, _ => mm_cp293
  | 294, _ => mm_cp294
  | 295, _ => mm_cp295
  | 296, _ => mm_cp296
  | 297, h => absurd h (by decide)
  | 298, h => absurd h (by decide)
  | 299, h => absurd h (by decide)
  | 300, _ => mm_cp300
  | 301, _ => mm_cp301
  | 302, _ => mm_cp302
  | 303, _ => mm_cp303
  | 304, _ => mm_cp304
  | 305, _ => mm_cp305
  | 306, _ => mm_cp306
  | a + 307, h => absurd h (by omega)
