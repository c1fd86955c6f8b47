/-! the words of each method -/
set_option maxRecDepth 20000 in
theorem mm_cp0 : mm_cP 0 := ⟨1017, 1016, 0, 1001, rfl, rfl, by decide +kernel, by decide +kernel, ⟨rfl, by decide +kernel, Or.inl rfl⟩⟩
set_option maxRecDepth 20000 in
theorem mm_cp1 : mm_cP 1 := ⟨3006, 3004, 3005, 1001, rfl, rfl, by decide +kernel, by decide +kernel, ⟨rfl, by decide +kernel, Or.inr rfl⟩⟩
set_option maxRecDepth 20000 in
theorem mm_cp6 : mm_cP 6 := ⟨4083, 4081, 4082, 1001, rfl, rfl, by decide +kernel, by decide +kernel, ⟨rfl, by decide +kernel, Or.inr rfl⟩⟩
set_option maxRecDepth 20000 in
theorem mm_cp7 : mm_cP 7 := ⟨3067, 3065, 3066, 1001, rfl, rfl, by decide +kernel, by decide +kernel, ⟨rfl, by decide +kernel, Or.inr rfl⟩⟩
set_option maxRecDepth 20000 in
theorem mm_cp8 : mm_cP 8 := ⟨4071, 4069, 4070, 1001, rfl, rfl, by decide +kernel, by decide +kernel, ⟨rfl, by decide +kernel, Or.inr rfl⟩⟩
set_option maxRecDepth 20000 in
theorem mm_cp9 : mm_cP 9 := ⟨3104, 3102, 3103, 1001, rfl, rfl, by decide +kernel, by decide +kernel, ⟨rfl, by decide +kernel, Or.inr rfl⟩⟩
set_option maxRecDepth 20000 in
theorem mm_cp10 : mm_cP 10 := ⟨3114, 3112, 3113, 1001, rfl, rfl, by decide +kernel, by decide +kernel, ⟨rfl, by decide +kernel, Or.inr rfl⟩⟩
set_option maxRecDepth 20000 in
theorem mm_cp11 : mm_cP 11 := ⟨3118, 3116, 3117, 1001, rfl, rfl, by decide +kernel, by decide +kernel, ⟨rfl, by decide +kernel, Or.inr rfl⟩⟩
set_option maxRecDepth 20000 in
theorem mm_cp12 : mm_cP 12 := ⟨3135, 3133, 3134, 1001, rfl, rfl, by decide +kernel, by decide +kernel, ⟨rfl, by decide +kernel, Or.inr rfl⟩⟩
set_option maxRecDepth 20000 in
theorem mm_cp13 : mm_cP 13 := ⟨4051, 4049, 4050, 1001, rfl, rfl, by decide +kernel, by decide +kernel, ⟨rfl, by decide +kernel, Or.inr rfl⟩⟩
set_option maxRecDepth 20000 in
theorem mm_cp14 : mm_cP 14 := ⟨4079, 4077, 4078, 1001, rfl, rfl, by decide +kernel, by decide +kernel, ⟨rfl, by decide +kernel, Or.inr rfl⟩⟩
set_option maxRecDepth 20000 in
theorem mm_cp25 : mm_cP 25 := ⟨3152, 3150, 3151, 1001, rfl, rfl, by decide +kernel, by decide +kernel, ⟨rfl, by decide +kernel, Or.inr rfl⟩⟩
set_option maxRecDepth 20000 in
theorem mm_cp26 : mm_cP 26 := ⟨3165, 3163, 3164, 1001, rfl, rfl, by decide +kernel, by decide +kernel, ⟨rfl, by decide +kernel, Or.inr rfl⟩⟩
set_option maxRecDepth 20000 in
theorem mm_cp27 : mm_cP 27 := ⟨4092, 4090, 4091, 1001, rfl, rfl, by decide +kernel, by decide +kernel, ⟨rfl, by decide +kernel, Or.inr rfl⟩⟩
set_option maxRecDepth 20000 in
theorem mm_cp28 : mm_cP 28 := ⟨3173, 3171, 3172, 1001, rfl, rfl, by decide +kernel, by decide +kernel, ⟨rfl, by decide +kernel, Or.inr rfl⟩⟩
set_option maxRecDepth 20000 in
theorem mm_cp29 : mm_cP 29 := ⟨3182, 3180, 3181, 1001, rfl, rfl, by decide +kernel, by decide +kernel, ⟨rfl, by decide +kernel, Or.inr rfl⟩⟩
set_option maxRecDepth 20000 in
theorem mm_cp30 : mm_cP 30 := ⟨3186, 3184, 3185, 1001, rfl, rfl, by decide +kernel, by decide +kernel, ⟨rfl, by decide +kernel, Or.inr rfl⟩⟩
set_option maxRecDepth 20000 in
theorem mm_cp31 : mm_cP 31 := ⟨3198, 3196, 3197, 1001, rfl, rfl, by decide +kernel, by decide +kernel, ⟨rfl, by decide +kernel, Or.inr rfl⟩⟩
set_option maxRecDepth 20000 in
theorem mm_cp32 : mm_cP 32 := ⟨4036, 4034, 4035, 1001, rfl, rfl, by decide +kernel, by decide +kernel, ⟨rfl, by decide +kernel, Or.inr rfl⟩⟩
set_option maxRecDepth 20000 in
theorem mm_cp33 : mm_cP 33 := ⟨4040, 4038, 4039, 1001, rfl, rfl, by decide +kernel, by decide +kernel, ⟨rfl, by decide +kernel, Or.inr rfl⟩⟩
set_option maxRecDepth 20000 in
theorem mm_cp34 : mm_cP 34 := ⟨4063, 4061, 4062, 1001, rfl, rfl, by decide +kernel, by decide +kernel, ⟨rfl, by decide +kernel, Or.inr rfl⟩⟩
set_option maxRecDepth 20000 in
theorem mm_cp35 : mm_cP 35 := ⟨4055, 4053, 4054, 1001, rfl, rfl, by decide +kernel, by decide +kernel, ⟨rfl, by decide +kernel, Or.inr rfl⟩⟩
set_option maxRecDepth 20000 in
theorem mm_cp36 : mm_cP 36 := ⟨4087, 4085, 4086, 1001, rfl, rfl, by decide +kernel, by decide +kernel, ⟨rfl, by decide +kernel, Or.inr rfl⟩⟩
set_option maxRecDepth 20000 in
theorem mm_cp37 : mm_cP 37 := ⟨3224, 3222, 3223, 1001, rfl, rfl, by decide +kernel, by decide +kernel, ⟨rfl, by decide +kernel, Or.inr rfl⟩⟩
set_option maxRecDepth 20000 in
theorem mm_cp38 : mm_cP 38 := ⟨3228, 3226, 3227, 1001, rfl, rfl, by decide +kernel, by decide +kernel, ⟨rfl, by decide +kernel, Or.inr rfl⟩⟩
set_option maxRecDepth 20000 in
theorem mm_cp39 : mm_cP 39 := ⟨2157, 2155, 2156, 1001, rfl, rfl, by decide +kernel, by decide +kernel, ⟨rfl, by decide +kernel, Or.inr rfl⟩⟩
set_option maxRecDepth 20000 in
theorem mm_cp40 : mm_cP 40 := ⟨4044, 4042, 4043, 1001, rfl, rfl, by decide +kernel, by decide +kernel, ⟨rfl, by decide +kernel, Or.inr rfl⟩⟩
set_option maxRecDepth 20000 in
theorem mm_cp41 : mm_cP 41 := ⟨2165, 2163, 2164, 1001, rfl, rfl, by decide +kernel, by decide +kernel, ⟨rfl, by decide +kernel, Or.inr rfl⟩⟩
set_option maxRecDepth 20000 in
theorem mm_cp42 : mm_cP 42 := ⟨2203, 2201, 2202, 1001, rfl, rfl, by decide +kernel, by decide +kernel, ⟨rfl, by decide +kernel, Or.inr rfl⟩⟩
set_option maxRecDepth 20000 in
theorem mm_cp43 : mm_cP 43 := ⟨2215, 2213, 2214, 1001, rfl, rfl, by decide +kernel, by decide +kernel, ⟨rfl, by decide +kernel, Or.inr rfl⟩⟩
set_option maxRecDepth 20000 in
theorem mm_cp44 : mm_cP 44 := ⟨2219, 2217, 2218, 1001, rfl, rfl, by decide +kernel, by decide +kernel, ⟨rfl, by decide +kernel, Or.inr rfl⟩⟩
set_option maxRecDepth 20000 in
theorem mm_cp45 : mm_cP 45 := ⟨2227, 2225, 2226, 1001, rfl, rfl, by decide +kernel, by decide +kernel, ⟨rfl, by decide +kernel, Or.inr rfl⟩⟩
set_option maxRecDepth 20000 in
theorem mm_cp46 : mm_cP 46 := ⟨2235, 2233, 2234, 1001, rfl, rfl, by decide +kernel, by decide +kernel, ⟨rfl, by decide +kernel, Or.inr rfl⟩⟩
set_option maxRecDepth 20000 in
theorem mm_cp52 : mm_cP 52 := ⟨4096, 4094, 4095, 1001, rfl, rfl, by decide +kernel, by decide +kernel, ⟨rfl, by decide +kernel, Or.inr rfl⟩⟩
set_option maxRecDepth 20000 in
theorem mm_cp53 : mm_cP 53 := ⟨3014, 3013, 4, 1001, rfl, rfl, by decide +kernel, by decide +kernel, ⟨rfl, by decide +kernel, Or.inr rfl⟩⟩
set_option maxRecDepth 20000 in
theorem mm_cp54 : mm_cP 54 := ⟨3018, 3017, 5, 1001, rfl, rfl, by decide +kernel, by decide +kernel, ⟨rfl, by decide +kernel, Or.inr rfl⟩⟩
set_option maxRecDepth 20000 in
theorem mm_cp55 : mm_cP 55 := ⟨3010, 3009, 3, 1001, rfl, rfl, by decide +kernel, by decide +kernel, ⟨rfl, by decide +kernel, Or.inr rfl⟩⟩
set_option maxRecDepth 20000 in
theorem mm_cp56 : mm_cP 56 := ⟨3022, 3021, 6, 1001, rfl, rfl, by decide +kernel, by decide +kernel, ⟨rfl, by decide +kernel, Or.inr rfl⟩⟩
set_option maxRecDepth 20000 in
theorem mm_cp57 : mm_cP 57 := ⟨3169, 3168, 15, 1001, rfl, rfl, by decide +kernel, by decide +kernel, ⟨rfl, by decide +kernel, Or.inr rfl⟩⟩
set_option maxRecDepth 20000 in
theorem mm_cp58 : mm_cP 58 := ⟨3030, 3029, 7, 1001, rfl, rfl, by decide +kernel, by decide +kernel, ⟨rfl, by decide +kernel, Or.inr rfl⟩⟩
set_option maxRecDepth 20000 in
theorem mm_cp60 : mm_cP 60 := ⟨3043, 3042, 10, 1001, rfl, rfl, by decide +kernel, by decide +kernel, ⟨rfl, by decide +kernel, Or.inr rfl⟩⟩
set_option maxRecDepth 20000 in
theorem mm_cp61 : mm_cP 61 := ⟨3039, 3038, 9, 1001, rfl, rfl, by decide +kernel, by decide +kernel, ⟨rfl, by decide +kernel, Or.inr rfl⟩⟩
set_option maxRecDepth 20000 in
theorem mm_cp63 : mm_cP 63 := ⟨3063, 3062, 11, 1001, rfl, rfl, by decide +kernel, by decide +kernel, ⟨rfl, by decide +kernel, Or.inr rfl⟩⟩
set_option maxRecDepth 20000 in
theorem mm_cp64 : mm_cP 64 := ⟨2161, 2160, 0, 1001, rfl, rfl, by decide +kernel, by decide +kernel, ⟨rfl, by decide +kernel, Or.inr rfl⟩⟩
set_option maxRecDepth 20000 in
theorem mm_cp65 : mm_cP 65 := ⟨2169, 2168, 1, 1001, rfl, rfl, by decide +kernel, by decide +kernel, ⟨rfl, by decide +kernel, Or.inr rfl⟩⟩
set_option maxRecDepth 20000 in
theorem mm_cp66 : mm_cP 66 := ⟨2173, 2172, 2, 1001, rfl, rfl, by decide +kernel, by decide +kernel, ⟨rfl, by decide +kernel, Or.inr rfl⟩⟩
set_option maxRecDepth 20000 in
theorem mm_cp67 : mm_cP 67 := ⟨3035, 3034, 8, 1001, rfl, rfl, by decide +kernel, by decide +kernel, ⟨rfl, by decide +kernel, Or.inr rfl⟩⟩
set_option maxRecDepth 20000 in
theorem mm_cp69 : mm_cP 69 := ⟨3139, 3138, 13, 1001, rfl, rfl, by decide +kernel, by decide +kernel, ⟨rfl, by decide +kernel, Or.inr rfl⟩⟩
set_option maxRecDepth 20000 in
theorem mm_cp70 : mm_cP 70 := ⟨3148, 3147, 14, 1001, rfl, rfl, by decide +kernel, by decide +kernel, ⟨rfl, by decide +kernel, Or.inr rfl⟩⟩
set_option maxRecDepth 20000 in
theorem mm_cp71 : mm_cP 71 := ⟨3126, 3125, 12, 1001, rfl, rfl, by decide +kernel, by decide +kernel, ⟨rfl, by decide +kernel, Or.inr rfl⟩⟩
set_option maxRecDepth 20000 in
theorem mm_cp72 : mm_cP 72 := ⟨3206, 3205, 18, 1001, rfl, rfl, by decide +kernel, by decide +kernel, ⟨rfl, by decide +kernel, Or.inr rfl⟩⟩
set_option maxRecDepth 20000 in
theorem mm_cp73 : mm_cP 73 := ⟨3202, 3201, 17, 1001, rfl, rfl, by decide +kernel, by decide +kernel, ⟨rfl, by decide +kernel, Or.inr rfl⟩⟩
set_option maxRecDepth 20000 in
theorem mm_cp74 : mm_cP 74 := ⟨3190, 3189, 16, 1001, rfl, rfl, by decide +kernel, by decide +kernel, ⟨rfl, by decide +kernel, Or.inr rfl⟩⟩
set_option maxRecDepth 20000 in
theorem mm_cp75 : mm_cP 75 := ⟨3210, 3209, 19, 1001, rfl, rfl, by decide +kernel, by decide +kernel, ⟨rfl, by decide +kernel, Or.inr rfl⟩⟩
set_option maxRecDepth 20000 in
theorem mm_cp79 : mm_cP 79 := ⟨2005, 2004, 0, 1009, rfl, rfl, by decide +kernel, by decide +kernel, ⟨rfl, by decide +kernel, Or.inl rfl⟩⟩
set_option maxRecDepth 20000 in
theorem mm_cp80 : mm_cP 80 := ⟨2083, 2081, 2082, 1009, rfl, rfl, by decide +kernel, by decide +kernel, ⟨rfl, by decide +kernel, Or.inr rfl⟩⟩
set_option maxRecDepth 20000 in
theorem mm_cp81 : mm_cP 81 := ⟨3214, 3212, 3213, 1009, rfl, rfl, by decide +kernel, by decide +kernel, ⟨rfl, by decide +kernel, Or.inr rfl⟩⟩
set_option maxRecDepth 20000 in
theorem mm_cp82 : mm_cP 82 := ⟨3075, 3073, 3074, 1009, rfl, rfl, by decide +kernel, by decide +kernel, ⟨rfl, by decide +kernel, Or.inr rfl⟩⟩
set_option maxRecDepth 20000 in
theorem mm_cp83 : mm_cP 83 := ⟨1102, 1101, 0, 1004, rfl, rfl, by decide +kernel, by decide +kernel, ⟨rfl, by decide +kernel, Or.inl rfl⟩⟩
set_option maxRecDepth 20000 in
theorem mm_cp84 : mm_cP 84 := ⟨2207, 2205, 2206, 1004, rfl, rfl, by decide +kernel, by decide +kernel, ⟨rfl, by decide +kernel, Or.inr rfl⟩⟩
set_option maxRecDepth 20000 in
theorem mm_cp85 : mm_cP 85 := ⟨2211, 2209, 2210, 1004, rfl, rfl, by decide +kernel, by decide +kernel, ⟨rfl, by decide +kernel, Or.inr rfl⟩⟩
set_option maxRecDepth 20000 in
theorem mm_cp86 : mm_cP 86 := ⟨2223, 2221, 2222, 1004, rfl, rfl, by decide +kernel, by decide +kernel, ⟨rfl, by decide +kernel, Or.inr rfl⟩⟩
set_option maxRecDepth 20000 in
theorem mm_cp87 : mm_cP 87 := ⟨2231, 2229, 2230, 1004, rfl, rfl, by decide +kernel, by decide +kernel, ⟨rfl, by decide +kernel, Or.inr rfl⟩⟩
set_option maxRecDepth 20000 in
theorem mm_cp88 : mm_cP 88 := ⟨2239, 2237, 2238, 1004, rfl, rfl, by decide +kernel, by decide +kernel, ⟨rfl, by decide +kernel, Or.inr rfl⟩⟩
set_option maxRecDepth 20000 in
theorem mm_cp89 : mm_cP 89 := ⟨2066, 2065, 0, 1011, rfl, rfl, by decide +kernel, by decide +kernel, ⟨rfl, by decide +kernel, Or.inl rfl⟩⟩
set_option maxRecDepth 20000 in
theorem mm_cp90 : mm_cP 90 := ⟨3156, 3154, 3155, 1011, rfl, rfl, by decide +kernel, by decide +kernel, ⟨rfl, by decide +kernel, Or.inr rfl⟩⟩
set_option maxRecDepth 20000 in
theorem mm_cp91 : mm_cP 91 := ⟨3130, 3128, 3129, 1011, rfl, rfl, by decide +kernel, by decide +kernel, ⟨rfl, by decide +kernel, Or.inr rfl⟩⟩
set_option maxRecDepth 20000 in
theorem mm_cp93 : mm_cP 93 := ⟨3160, 3158, 3159, 1011, rfl, rfl, by decide +kernel, by decide +kernel, ⟨rfl, by decide +kernel, Or.inr rfl⟩⟩
set_option maxRecDepth 20000 in
theorem mm_cp94 : mm_cP 94 := ⟨1164, 1163, 0, 1008, rfl, rfl, by decide +kernel, by decide +kernel, ⟨rfl, by decide +kernel, Or.inl rfl⟩⟩
set_option maxRecDepth 20000 in
theorem mm_cp95 : mm_cP 95 := ⟨2087, 2085, 2086, 1008, rfl, rfl, by decide +kernel, by decide +kernel, ⟨rfl, by decide +kernel, Or.inr rfl⟩⟩
set_option maxRecDepth 20000 in
theorem mm_cp96 : mm_cP 96 := ⟨2181, 2179, 2180, 1008, rfl, rfl, by decide +kernel, by decide +kernel, ⟨rfl, by decide +kernel, Or.inr rfl⟩⟩
set_option maxRecDepth 20000 in
theorem mm_cp98 : mm_cP 98 := ⟨3051, 3049, 3050, 1008, rfl, rfl, by decide +kernel, by decide +kernel, ⟨rfl, by decide +kernel, Or.inr rfl⟩⟩
set_option maxRecDepth 20000 in
theorem mm_cp99 : mm_cP 99 := ⟨3047, 3045, 3046, 1008, rfl, rfl, by decide +kernel, by decide +kernel, ⟨rfl, by decide +kernel, Or.inr rfl⟩⟩
set_option maxRecDepth 20000 in
theorem mm_cp100 : mm_cP 100 := ⟨3059, 3057, 3058, 1008, rfl, rfl, by decide +kernel, by decide +kernel, ⟨rfl, by decide +kernel, Or.inr rfl⟩⟩
set_option maxRecDepth 20000 in
theorem mm_cp101 : mm_cP 101 := ⟨3122, 3120, 3121, 1008, rfl, rfl, by decide +kernel, by decide +kernel, ⟨rfl, by decide +kernel, Or.inr rfl⟩⟩
set_option maxRecDepth 20000 in
theorem mm_cp107 : mm_cP 107 := ⟨3087, 3085, 3086, 1008, rfl, rfl, by decide +kernel, by decide +kernel, ⟨rfl, by decide +kernel, Or.inr rfl⟩⟩
set_option maxRecDepth 20000 in
theorem mm_cp108 : mm_cP 108 := ⟨3096, 3094, 3095, 1008, rfl, rfl, by decide +kernel, by decide +kernel, ⟨rfl, by decide +kernel, Or.inr rfl⟩⟩
set_option maxRecDepth 20000 in
theorem mm_cp109 : mm_cP 109 := ⟨2189, 2187, 2188, 1008, rfl, rfl, by decide +kernel, by decide +kernel, ⟨rfl, by decide +kernel, Or.inr rfl⟩⟩
set_option maxRecDepth 20000 in
theorem mm_cp110 : mm_cP 110 := ⟨2185, 2183, 2184, 1008, rfl, rfl, by decide +kernel, by decide +kernel, ⟨rfl, by decide +kernel, Or.inr rfl⟩⟩
set_option maxRecDepth 20000 in
theorem mm_cp111 : mm_cP 111 := ⟨2095, 2093, 2094, 1008, rfl, rfl, by decide +kernel, by decide +kernel, ⟨rfl, by decide +kernel, Or.inr rfl⟩⟩
set_option maxRecDepth 20000 in
theorem mm_cp112 : mm_cP 112 := ⟨2107, 2105, 2106, 1008, rfl, rfl, by decide +kernel, by decide +kernel, ⟨rfl, by decide +kernel, Or.inr rfl⟩⟩
set_option maxRecDepth 20000 in
theorem mm_cp113 : mm_cP 113 := ⟨4020, 4018, 4019, 1008, rfl, rfl, by decide +kernel, by decide +kernel, ⟨rfl, by decide +kernel, Or.inr rfl⟩⟩
set_option maxRecDepth 20000 in
theorem mm_cp114 : mm_cP 114 := ⟨3236, 3234, 3235, 1008, rfl, rfl, by decide +kernel, by decide +kernel, ⟨rfl, by decide +kernel, Or.inr rfl⟩⟩
set_option maxRecDepth 20000 in
theorem mm_cp115 : mm_cP 115 := ⟨4004, 4003, 20, 1008, rfl, rfl, by decide +kernel, by decide +kernel, ⟨rfl, by decide +kernel, Or.inr rfl⟩⟩
set_option maxRecDepth 20000 in
theorem mm_cp116 : mm_cP 116 := ⟨4008, 4007, 21, 1008, rfl, rfl, by decide +kernel, by decide +kernel, ⟨rfl, by decide +kernel, Or.inr rfl⟩⟩
set_option maxRecDepth 20000 in
theorem mm_cp117 : mm_cP 117 := ⟨4012, 4011, 22, 1008, rfl, rfl, by decide +kernel, by decide +kernel, ⟨rfl, by decide +kernel, Or.inr rfl⟩⟩
set_option maxRecDepth 20000 in
theorem mm_cp118 : mm_cP 118 := ⟨1031, 1030, 0, 1002, rfl, rfl, by decide +kernel, by decide +kernel, ⟨rfl, by decide +kernel, Or.inl rfl⟩⟩
set_option maxRecDepth 20000 in
theorem mm_cp119 : mm_cP 119 := ⟨2195, 2193, 2194, 1002, rfl, rfl, by decide +kernel, by decide +kernel, ⟨rfl, by decide +kernel, Or.inr rfl⟩⟩
set_option maxRecDepth 20000 in
theorem mm_cp125 : mm_cP 125 := ⟨1119, 1118, 0, 1006, rfl, rfl, by decide +kernel, by decide +kernel, ⟨rfl, by decide +kernel, Or.inl rfl⟩⟩
set_option maxRecDepth 20000 in
theorem mm_cp126 : mm_cP 126 := ⟨3071, 3069, 3070, 1006, rfl, rfl, by decide +kernel, by decide +kernel, ⟨rfl, by decide +kernel, Or.inr rfl⟩⟩
set_option maxRecDepth 20000 in
theorem mm_cp127 : mm_cP 127 := ⟨3091, 3089, 3090, 1006, rfl, rfl, by decide +kernel, by decide +kernel, ⟨rfl, by decide +kernel, Or.inr rfl⟩⟩
set_option maxRecDepth 20000 in
theorem mm_cp128 : mm_cP 128 := ⟨2099, 2097, 2098, 1006, rfl, rfl, by decide +kernel, by decide +kernel, ⟨rfl, by decide +kernel, Or.inr rfl⟩⟩
set_option maxRecDepth 20000 in
theorem mm_cp129 : mm_cP 129 := ⟨2103, 2101, 2102, 1006, rfl, rfl, by decide +kernel, by decide +kernel, ⟨rfl, by decide +kernel, Or.inr rfl⟩⟩
set_option maxRecDepth 20000 in
theorem mm_cp130 : mm_cP 130 := ⟨4075, 4073, 4074, 1006, rfl, rfl, by decide +kernel, by decide +kernel, ⟨rfl, by decide +kernel, Or.inr rfl⟩⟩
set_option maxRecDepth 20000 in
theorem mm_cp131 : mm_cP 131 := ⟨3100, 3098, 3099, 1006, rfl, rfl, by decide +kernel, by decide +kernel, ⟨rfl, by decide +kernel, Or.inr rfl⟩⟩
set_option maxRecDepth 20000 in
theorem mm_cp132 : mm_cP 132 := ⟨3109, 3107, 3108, 1006, rfl, rfl, by decide +kernel, by decide +kernel, ⟨rfl, by decide +kernel, Or.inr rfl⟩⟩
set_option maxRecDepth 20000 in
theorem mm_cp133 : mm_cP 133 := ⟨4000, 3238, 3239, 1006, rfl, rfl, by decide +kernel, by decide +kernel, ⟨rfl, by decide +kernel, Or.inr rfl⟩⟩
set_option maxRecDepth 20000 in
theorem mm_cp134 : mm_cP 134 := ⟨4100, 4098, 4099, 1006, rfl, rfl, by decide +kernel, by decide +kernel, ⟨rfl, by decide +kernel, Or.inr rfl⟩⟩
set_option maxRecDepth 20000 in
theorem mm_cp135 : mm_cP 135 := ⟨4108, 4106, 4107, 1006, rfl, rfl, by decide +kernel, by decide +kernel, ⟨rfl, by decide +kernel, Or.inr rfl⟩⟩
set_option maxRecDepth 20000 in
theorem mm_cp136 : mm_cP 136 := ⟨4112, 4110, 4111, 1006, rfl, rfl, by decide +kernel, by decide +kernel, ⟨rfl, by decide +kernel, Or.inr rfl⟩⟩
set_option maxRecDepth 20000 in
theorem mm_cp137 : mm_cP 137 := ⟨1050, 1049, 0, 1003, rfl, rfl, by decide +kernel, by decide +kernel, ⟨rfl, by decide +kernel, Or.inl rfl⟩⟩
set_option maxRecDepth 20000 in
theorem mm_cp153 : mm_cP 153 := ⟨2042, 2041, 0, 1010, rfl, rfl, by decide +kernel, by decide +kernel, ⟨rfl, by decide +kernel, Or.inl rfl⟩⟩
set_option maxRecDepth 20000 in
theorem mm_cp154 : mm_cP 154 := ⟨3177, 3175, 3176, 1010, rfl, rfl, by decide +kernel, by decide +kernel, ⟨rfl, by decide +kernel, Or.inr rfl⟩⟩
set_option maxRecDepth 20000 in
theorem mm_cp155 : mm_cP 155 := ⟨3219, 3217, 3218, 1010, rfl, rfl, by decide +kernel, by decide +kernel, ⟨rfl, by decide +kernel, Or.inr rfl⟩⟩
set_option maxRecDepth 20000 in
theorem mm_cp156 : mm_cP 156 := ⟨1157, 1156, 0, 1007, rfl, rfl, by decide +kernel, by decide +kernel, ⟨rfl, by decide +kernel, Or.inl rfl⟩⟩
set_option maxRecDepth 20000 in
theorem mm_cp157 : mm_cP 157 := ⟨3026, 3024, 3025, 1007, rfl, rfl, by decide +kernel, by decide +kernel, ⟨rfl, by decide +kernel, Or.inr rfl⟩⟩
set_option maxRecDepth 20000 in
theorem mm_cp158 : mm_cP 158 := ⟨3055, 3053, 3054, 1007, rfl, rfl, by decide +kernel, by decide +kernel, ⟨rfl, by decide +kernel, Or.inr rfl⟩⟩
set_option maxRecDepth 20000 in
theorem mm_cp159 : mm_cP 159 := ⟨4059, 4057, 4058, 1007, rfl, rfl, by decide +kernel, by decide +kernel, ⟨rfl, by decide +kernel, Or.inr rfl⟩⟩
set_option maxRecDepth 20000 in
theorem mm_cp160 : mm_cP 160 := ⟨3083, 3081, 3082, 1007, rfl, rfl, by decide +kernel, by decide +kernel, ⟨rfl, by decide +kernel, Or.inr rfl⟩⟩
set_option maxRecDepth 20000 in
theorem mm_cp161 : mm_cP 161 := ⟨3194, 3192, 3193, 1007, rfl, rfl, by decide +kernel, by decide +kernel, ⟨rfl, by decide +kernel, Or.inr rfl⟩⟩
set_option maxRecDepth 20000 in
theorem mm_cp162 : mm_cP 162 := ⟨3079, 3077, 3078, 1007, rfl, rfl, by decide +kernel, by decide +kernel, ⟨rfl, by decide +kernel, Or.inr rfl⟩⟩
set_option maxRecDepth 20000 in
theorem mm_cp163 : mm_cP 163 := ⟨4067, 4065, 4066, 1007, rfl, rfl, by decide +kernel, by decide +kernel, ⟨rfl, by decide +kernel, Or.inr rfl⟩⟩
set_option maxRecDepth 20000 in
theorem mm_cp164 : mm_cP 164 := ⟨3143, 3141, 3142, 1007, rfl, rfl, by decide +kernel, by decide +kernel, ⟨rfl, by decide +kernel, Or.inr rfl⟩⟩
set_option maxRecDepth 20000 in
theorem mm_cp165 : mm_cP 165 := ⟨2091, 2089, 2090, 1007, rfl, rfl, by decide +kernel, by decide +kernel, ⟨rfl, by decide +kernel, Or.inr rfl⟩⟩
set_option maxRecDepth 20000 in
theorem mm_cp166 : mm_cP 166 := ⟨2199, 2197, 2198, 1007, rfl, rfl, by decide +kernel, by decide +kernel, ⟨rfl, by decide +kernel, Or.inr rfl⟩⟩
set_option maxRecDepth 20000 in
theorem mm_cp167 : mm_cP 167 := ⟨2177, 2175, 2176, 1007, rfl, rfl, by decide +kernel, by decide +kernel, ⟨rfl, by decide +kernel, Or.inr rfl⟩⟩
set_option maxRecDepth 20000 in
theorem mm_cp168 : mm_cP 168 := ⟨3232, 3230, 3231, 1007, rfl, rfl, by decide +kernel, by decide +kernel, ⟨rfl, by decide +kernel, Or.inr rfl⟩⟩
set_option maxRecDepth 20000 in
theorem mm_cp169 : mm_cP 169 := ⟨4016, 4014, 4015, 1007, rfl, rfl, by decide +kernel, by decide +kernel, ⟨rfl, by decide +kernel, Or.inr rfl⟩⟩
set_option maxRecDepth 20000 in
theorem mm_cp170 : mm_cP 170 := ⟨4024, 4022, 4023, 1007, rfl, rfl, by decide +kernel, by decide +kernel, ⟨rfl, by decide +kernel, Or.inr rfl⟩⟩
set_option maxRecDepth 20000 in
theorem mm_cp171 : mm_cP 171 := ⟨4030, 4028, 4029, 1007, rfl, rfl, by decide +kernel, by decide +kernel, ⟨rfl, by decide +kernel, Or.inr rfl⟩⟩
set_option maxRecDepth 20000 in
theorem mm_cp172 : mm_cP 172 := ⟨4104, 4102, 4103, 1007, rfl, rfl, by decide +kernel, by decide +kernel, ⟨rfl, by decide +kernel, Or.inr rfl⟩⟩
set_option maxRecDepth 20000 in
theorem mm_cp307 : mm_cP 307 := ⟨3002, 3001, 0, 1000, rfl, rfl, by decide +kernel, by decide +kernel, ⟨rfl, by decide +kernel⟩⟩
set_option maxRecDepth 20000 in
theorem mm_cp308 : mm_cP 308 := ⟨4047, 4046, 0, 1000, rfl, rfl, by decide +kernel, by decide +kernel, ⟨rfl, by decide +kernel⟩⟩
theorem mm_cp_0 : ∀ y ∈ ([0, 1, 6, 7, 8, 9, 10, 11, 12, 13, 14, 25, 26, 27, 28, 29, 30, 31, 32, 33] : List Nat), mm_cP y := List.forall_mem_cons.mpr ⟨mm_cp0, List.forall_mem_cons.mpr ⟨mm_cp1, List.forall_mem_cons.mpr ⟨mm_cp6, List.forall_mem_cons.mpr ⟨mm_cp7, List.forall_mem_cons.mpr ⟨mm_cp8, List.forall_mem_cons.mpr ⟨mm_cp9, List.forall_mem_cons.mpr ⟨mm_cp10, List.forall_mem_cons.mpr ⟨mm_cp11, List.forall_mem_cons.mpr ⟨mm_cp12, List.forall_mem_cons.mpr ⟨mm_cp13, List.forall_mem_cons.mpr ⟨mm_cp14, List.forall_mem_cons.mpr ⟨mm_cp25, List.forall_mem_cons.mpr ⟨mm_cp26, List.forall_mem_cons.mpr ⟨mm_cp27, List.forall_mem_cons.mpr ⟨mm_cp28, List.forall_mem_cons.mpr ⟨mm_cp29, List.forall_mem_cons.mpr ⟨mm_cp30, List.forall_mem_cons.mpr ⟨mm_cp31, List.forall_mem_cons.mpr ⟨mm_cp32, List.forall_mem_cons.mpr ⟨mm_cp33, fun _ h => absurd h List.not_mem_nil⟩⟩⟩⟩⟩⟩⟩⟩⟩⟩⟩⟩⟩⟩⟩⟩⟩⟩⟩⟩
theorem mm_cp_1 : ∀ y ∈ ([34, 35, 36, 37, 38, 39, 40, 41, 42, 43, 44, 45, 46, 52, 53, 54, 55, 56, 57, 58] : List Nat), mm_cP y := List.forall_mem_cons.mpr ⟨mm_cp34, List.forall_mem_cons.mpr ⟨mm_cp35, List.forall_mem_cons.mpr ⟨mm_cp36, List.forall_mem_cons.mpr ⟨mm_cp37, List.forall_mem_cons.mpr ⟨mm_cp38, List.forall_mem_cons.mpr ⟨mm_cp39, List.forall_mem_cons.mpr ⟨mm_cp40, List.forall_mem_cons.mpr ⟨mm_cp41, List.forall_mem_cons.mpr ⟨mm_cp42, List.forall_mem_cons.mpr ⟨mm_cp43, List.forall_mem_cons.mpr ⟨mm_cp44, List.forall_mem_cons.mpr ⟨mm_cp45, List.forall_mem_cons.mpr ⟨mm_cp46, List.forall_mem_cons.mpr ⟨mm_cp52, List.forall_mem_cons.mpr ⟨mm_cp53, List.forall_mem_cons.mpr ⟨mm_cp54, List.forall_mem_cons.mpr ⟨mm_cp55, List.forall_mem_cons.mpr ⟨mm_cp56, List.forall_mem_cons.mpr ⟨mm_cp57, List.forall_mem_cons.mpr ⟨mm_cp58, fun _ h => absurd h List.not_mem_nil⟩⟩⟩⟩⟩⟩⟩⟩⟩⟩⟩⟩⟩⟩⟩⟩⟩⟩⟩⟩
theorem mm_cp_2 : ∀ y ∈ ([60, 61, 63, 64, 65, 66, 67, 69, 70, 71, 72, 73, 74, 75, 79, 80, 81, 82, 83, 84] : List Nat), mm_cP y := List.forall_mem_cons.mpr ⟨mm_cp60, List.forall_mem_cons.mpr ⟨mm_cp61, List.forall_mem_cons.mpr ⟨mm_cp63, List.forall_mem_cons.mpr ⟨mm_cp64, List.forall_mem_cons.mpr ⟨mm_cp65, List.forall_mem_cons.mpr ⟨mm_cp66, List.forall_mem_cons.mpr ⟨mm_cp67, List.forall_mem_cons.mpr ⟨mm_cp69, List.forall_mem_cons.mpr ⟨mm_cp70, List.forall_mem_cons.mpr ⟨mm_cp71, List.forall_mem_cons.mpr ⟨mm_cp72, List.forall_mem_cons.mpr ⟨mm_cp73, List.forall_mem_cons.mpr ⟨mm_cp74, List.forall_mem_cons.mpr ⟨mm_cp75, List.forall_mem_cons.mpr ⟨mm_cp79, List.forall_mem_cons.mpr ⟨mm_cp80, List.forall_mem_cons.mpr ⟨mm_cp81, List.forall_mem_cons.mpr ⟨mm_cp82, List.forall_mem_cons.mpr ⟨mm_cp83, List.forall_mem_cons.mpr ⟨mm_cp84, fun _ h => absurd h List.not_mem_nil⟩⟩⟩⟩⟩⟩⟩⟩⟩⟩⟩⟩⟩⟩⟩⟩⟩⟩⟩⟩
theorem mm_cp_3 : ∀ y ∈ ([85, 86, 87, 88, 89, 90, 91, 93, 94, 95, 96, 98, 99, 100, 101, 107, 108, 109, 110, 111] : List Nat), mm_cP y := List.forall_mem_cons.mpr ⟨mm_cp85, List.forall_mem_cons.mpr ⟨mm_cp86, List.forall_mem_cons.mpr ⟨mm_cp87, List.forall_mem_cons.mpr ⟨mm_cp88, List.forall_mem_cons.mpr ⟨mm_cp89, List.forall_mem_cons.mpr ⟨mm_cp90, List.forall_mem_cons.mpr ⟨mm_cp91, List.forall_mem_cons.mpr ⟨mm_cp93, List.forall_mem_cons.mpr ⟨mm_cp94, List.forall_mem_cons.mpr ⟨mm_cp95, List.forall_mem_cons.mpr ⟨mm_cp96, List.forall_mem_cons.mpr ⟨mm_cp98, List.forall_mem_cons.mpr ⟨mm_cp99, List.forall_mem_cons.mpr ⟨mm_cp100, List.forall_mem_cons.mpr ⟨mm_cp101, List.forall_mem_cons.mpr ⟨mm_cp107, List.forall_mem_cons.mpr ⟨mm_cp108, List.forall_mem_cons.mpr ⟨mm_cp109, List.forall_mem_cons.mpr ⟨mm_cp110, List.forall_mem_cons.mpr ⟨mm_cp111, fun _ h => absurd h List.not_mem_nil⟩⟩⟩⟩⟩⟩⟩⟩⟩⟩⟩⟩⟩⟩⟩⟩⟩⟩⟩⟩
theorem mm_cp_4 : ∀ y ∈ ([112, 113, 114, 115, 116, 117, 118, 119, 125, 126, 127, 128, 129, 130, 131, 132, 133, 134, 135, 136] : List Nat), mm_cP y := List.forall_mem_cons.mpr ⟨mm_cp112, List.forall_mem_cons.mpr ⟨mm_cp113, List.forall_mem_cons.mpr ⟨mm_cp114, List.forall_mem_cons.mpr ⟨mm_cp115, List.forall_mem_cons.mpr ⟨mm_cp116, List.forall_mem_cons.mpr ⟨mm_cp117, List.forall_mem_cons.mpr ⟨mm_cp118, List.forall_mem_cons.mpr ⟨mm_cp119, List.forall_mem_cons.mpr ⟨mm_cp125, List.forall_mem_cons.mpr ⟨mm_cp126, List.forall_mem_cons.mpr ⟨mm_cp127, List.forall_mem_cons.mpr ⟨mm_cp128, List.forall_mem_cons.mpr ⟨mm_cp129, List.forall_mem_cons.mpr ⟨mm_cp130, List.forall_mem_cons.mpr ⟨mm_cp131, List.forall_mem_cons.mpr ⟨mm_cp132, List.forall_mem_cons.mpr ⟨mm_cp133, List.forall_mem_cons.mpr ⟨mm_cp134, List.forall_mem_cons.mpr ⟨mm_cp135, List.forall_mem_cons.mpr ⟨mm_cp136, fun _ h => absurd h List.not_mem_nil⟩⟩⟩⟩⟩⟩⟩⟩⟩⟩⟩⟩⟩⟩⟩⟩⟩⟩⟩⟩
theorem mm_cp_5 : ∀ y ∈ ([137, 153, 154, 155, 156, 157, 158, 159, 160, 161, 162, 163, 164, 165, 166, 167, 168, 169, 170, 171] : List Nat), mm_cP y := List.forall_mem_cons.mpr ⟨mm_cp137, List.forall_mem_cons.mpr ⟨mm_cp153, List.forall_mem_cons.mpr ⟨mm_cp154, List.forall_mem_cons.mpr ⟨mm_cp155, List.forall_mem_cons.mpr ⟨mm_cp156, List.forall_mem_cons.mpr ⟨mm_cp157, List.forall_mem_cons.mpr ⟨mm_cp158, List.forall_mem_cons.mpr ⟨mm_cp159, List.forall_mem_cons.mpr ⟨mm_cp160, List.forall_mem_cons.mpr ⟨mm_cp161, List.forall_mem_cons.mpr ⟨mm_cp162, List.forall_mem_cons.mpr ⟨mm_cp163, List.forall_mem_cons.mpr ⟨mm_cp164, List.forall_mem_cons.mpr ⟨mm_cp165, List.forall_mem_cons.mpr ⟨mm_cp166, List.forall_mem_cons.mpr ⟨mm_cp167, List.forall_mem_cons.mpr ⟨mm_cp168, List.forall_mem_cons.mpr ⟨mm_cp169, List.forall_mem_cons.mpr ⟨mm_cp170, List.forall_mem_cons.mpr ⟨mm_cp171, fun _ h => absurd h List.not_mem_nil⟩⟩⟩⟩⟩⟩⟩⟩⟩⟩⟩⟩⟩⟩⟩⟩⟩⟩⟩⟩
theorem mm_cp_6 : ∀ y ∈ ([172, 307, 308] : List Nat), mm_cP y := List.forall_mem_cons.mpr ⟨mm_cp172, List.forall_mem_cons.mpr ⟨mm_cp307, List.forall_mem_cons.mpr ⟨mm_cp308, fun _ h => absurd h List.not_mem_nil⟩⟩⟩
theorem mm_cpL : ∀ y ∈ mm_rl0, mm_cP y := by
  have h : ∀ y ∈ ([0, 1, 6, 7, 8, 9, 10, 11, 12, 13, 14, 25, 26, 27, 28, 29, 30, 31, 32, 33] ++ ([34, 35, 36, 37, 38, 39, 40, 41, 42, 43, 44, 45, 46, 52, 53, 54, 55, 56, 57, 58] ++ ([60, 61, 63, 64, 65, 66, 67, 69, 70, 71, 72, 73, 74, 75, 79, 80, 81, 82, 83, 84] ++ ([85, 86, 87, 88, 89, 90, 91, 93, 94, 95, 96, 98, 99, 100, 101, 107, 108, 109, 110, 111] ++ ([112, 113, 114, 115, 116, 117, 118, 119, 125, 126, 127, 128, 129, 130, 131, 132, 133, 134, 135, 136] ++ ([137, 153, 154, 155, 156, 157, 158, 159, 160, 161, 162, 163, 164, 165, 166, 167, 168, 169, 170, 171] ++ ([172, 307, 308])))))) : List Nat), mm_cP y := List.forall_mem_append.mpr ⟨mm_cp_0, List.forall_mem_append.mpr ⟨mm_cp_1, List.forall_mem_append.mpr ⟨mm_cp_2, List.forall_mem_append.mpr ⟨mm_cp_3, List.forall_mem_append.mpr ⟨mm_cp_4, List.forall_mem_append.mpr ⟨mm_cp_5, mm_cp_6⟩⟩⟩⟩⟩⟩
  exact h
theorem mm_cpA : ∀ y, mm_rc y = true → mm_cP y := fun y hy => mm_cpL y (by unfold mm_rc at hy; simpa using hy)
