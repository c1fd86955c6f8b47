/-! every method's rows are its bytes' -/
theorem mm_pc {T : Type} {l : List T} {f : T → Bool} (a k : Nat) (h : ((l.drop a).take k).all f = true) {j : Nat} {q : T} (h1 : a ≤ j) (h2 : j < a + k) (hq : l[j]? = some q) : f q = true := by
  rw [List.all_eq_true] at h
  refine h q (List.mem_of_getElem? (i := j - a) ?_)
  rw [List.getElem?_take, if_pos (by omega), List.getElem?_drop, show a + (j - a) = j by omega]
  exact hq
set_option maxRecDepth 20000 in
theorem mm_ok297 : mm_okM 297 = true := by
  unfold mm_okM
  rw [List.all_eq_true]
  intro q hq
  obtain ⟨j, hj⟩ := List.mem_iff_getElem?.mp hq
  have hl : j < 84 := by
    have a := (List.getElem?_eq_some_iff.mp hj).1
    have e : (mm_code.getD 297 []).length = 84 := by decide +kernel
    omega
  by_cases c0 : j < 15
  · exact mm_pc (T := Nat × List mm_I) (l := mm_code.getD 297 []) (f := fun q : Nat × List mm_I => mm_chk 297 q.1 q.2) 0 15 mm_ok297_0 (by omega) (by omega) hj
  by_cases c1 : j < 20
  · exact mm_pc (T := Nat × List mm_I) (l := mm_code.getD 297 []) (f := fun q : Nat × List mm_I => mm_chk 297 q.1 q.2) 15 5 mm_ok297_15 (by omega) (by omega) hj
  by_cases c2 : j < 25
  · exact mm_pc (T := Nat × List mm_I) (l := mm_code.getD 297 []) (f := fun q : Nat × List mm_I => mm_chk 297 q.1 q.2) 20 5 mm_ok297_20 (by omega) (by omega) hj
  by_cases c3 : j < 33
  · exact mm_pc (T := Nat × List mm_I) (l := mm_code.getD 297 []) (f := fun q : Nat × List mm_I => mm_chk 297 q.1 q.2) 25 8 mm_ok297_25 (by omega) (by omega) hj
  by_cases c4 : j < 34
  · exact mm_pc (T := Nat × List mm_I) (l := mm_code.getD 297 []) (f := fun q : Nat × List mm_I => mm_chk 297 q.1 q.2) 33 1 mm_ok297_33 (by omega) (by omega) hj
  by_cases c5 : j < 35
  · exact mm_pc (T := Nat × List mm_I) (l := mm_code.getD 297 []) (f := fun q : Nat × List mm_I => mm_chk 297 q.1 q.2) 34 1 mm_ok297_34 (by omega) (by omega) hj
  by_cases c6 : j < 36
  · exact mm_pc (T := Nat × List mm_I) (l := mm_code.getD 297 []) (f := fun q : Nat × List mm_I => mm_chk 297 q.1 q.2) 35 1 mm_ok297_35 (by omega) (by omega) hj
  by_cases c7 : j < 37
  · exact mm_pc (T := Nat × List mm_I) (l := mm_code.getD 297 []) (f := fun q : Nat × List mm_I => mm_chk 297 q.1 q.2) 36 1 mm_ok297_36 (by omega) (by omega) hj
  by_cases c8 : j < 38
  · exact mm_pc (T := Nat × List mm_I) (l := mm_code.getD 297 []) (f := fun q : Nat × List mm_I => mm_chk 297 q.1 q.2) 37 1 mm_ok297_37 (by omega) (by omega) hj
  by_cases c9 : j < 39
  · exact mm_pc (T := Nat × List mm_I) (l := mm_code.getD 297 []) (f := fun q : Nat × List mm_I => mm_chk 297 q.1 q.2) 38 1 mm_ok297_38 (by omega) (by omega) hj
  by_cases c10 : j < 40
  · exact mm_pc (T := Nat × List mm_I) (l := mm_code.getD 297 []) (f := fun q : Nat × List mm_I => mm_chk 297 q.1 q.2) 39 1 mm_ok297_39 (by omega) (by omega) hj
  by_cases c11 : j < 41
  · exact mm_pc (T := Nat × List mm_I) (l := mm_code.getD 297 []) (f := fun q : Nat × List mm_I => mm_chk 297 q.1 q.2) 40 1 mm_ok297_40 (by omega) (by omega) hj
  by_cases c12 : j < 42
  · exact mm_pc (T := Nat × List mm_I) (l := mm_code.getD 297 []) (f := fun q : Nat × List mm_I => mm_chk 297 q.1 q.2) 41 1 mm_ok297_41 (by omega) (by omega) hj
  by_cases c13 : j < 43
  · exact mm_pc (T := Nat × List mm_I) (l := mm_code.getD 297 []) (f := fun q : Nat × List mm_I => mm_chk 297 q.1 q.2) 42 1 mm_ok297_42 (by omega) (by omega) hj
  by_cases c14 : j < 44
  · exact mm_pc (T := Nat × List mm_I) (l := mm_code.getD 297 []) (f := fun q : Nat × List mm_I => mm_chk 297 q.1 q.2) 43 1 mm_ok297_43 (by omega) (by omega) hj
  by_cases c15 : j < 45
  · exact mm_pc (T := Nat × List mm_I) (l := mm_code.getD 297 []) (f := fun q : Nat × List mm_I => mm_chk 297 q.1 q.2) 44 1 mm_ok297_44 (by omega) (by omega) hj
  by_cases c16 : j < 46
  · exact mm_pc (T := Nat × List mm_I) (l := mm_code.getD 297 []) (f := fun q : Nat × List mm_I => mm_chk 297 q.1 q.2) 45 1 mm_ok297_45 (by omega) (by omega) hj
  by_cases c17 : j < 47
  · exact mm_pc (T := Nat × List mm_I) (l := mm_code.getD 297 []) (f := fun q : Nat × List mm_I => mm_chk 297 q.1 q.2) 46 1 mm_ok297_46 (by omega) (by omega) hj
  by_cases c18 : j < 48
  · exact mm_pc (T := Nat × List mm_I) (l := mm_code.getD 297 []) (f := fun q : Nat × List mm_I => mm_chk 297 q.1 q.2) 47 1 mm_ok297_47 (by omega) (by omega) hj
  by_cases c19 : j < 49
  · exact mm_pc (T := Nat × List mm_I) (l := mm_code.getD 297 []) (f := fun q : Nat × List mm_I => mm_chk 297 q.1 q.2) 48 1 mm_ok297_48 (by omega) (by omega) hj
  by_cases c20 : j < 50
  · exact mm_pc (T := Nat × List mm_I) (l := mm_code.getD 297 []) (f := fun q : Nat × List mm_I => mm_chk 297 q.1 q.2) 49 1 mm_ok297_49 (by omega) (by omega) hj
  by_cases c21 : j < 51
  · exact mm_pc (T := Nat × List mm_I) (l := mm_code.getD 297 []) (f := fun q : Nat × List mm_I => mm_chk 297 q.1 q.2) 50 1 mm_ok297_50 (by omega) (by omega) hj
  by_cases c22 : j < 52
  · exact mm_pc (T := Nat × List mm_I) (l := mm_code.getD 297 []) (f := fun q : Nat × List mm_I => mm_chk 297 q.1 q.2) 51 1 mm_ok297_51 (by omega) (by omega) hj
  by_cases c23 : j < 53
  · exact mm_pc (T := Nat × List mm_I) (l := mm_code.getD 297 []) (f := fun q : Nat × List mm_I => mm_chk 297 q.1 q.2) 52 1 mm_ok297_52 (by omega) (by omega) hj
  by_cases c24 : j < 54
  · exact mm_pc (T := Nat × List mm_I) (l := mm_code.getD 297 []) (f := fun q : Nat × List mm_I => mm_chk 297 q.1 q.2) 53 1 mm_ok297_53 (by omega) (by omega) hj
  by_cases c25 : j < 55
  · exact mm_pc (T := Nat × List mm_I) (l := mm_code.getD 297 []) (f := fun q : Nat × List mm_I => mm_chk 297 q.1 q.2) 54 1 mm_ok297_54 (by omega) (by omega) hj
  by_cases c26 : j < 56
  · exact mm_pc (T := Nat × List mm_I) (l := mm_code.getD 297 []) (f := fun q : Nat × List mm_I => mm_chk 297 q.1 q.2) 55 1 mm_ok297_55 (by omega) (by omega) hj
  by_cases c27 : j < 57
  · exact mm_pc (T := Nat × List mm_I) (l := mm_code.getD 297 []) (f := fun q : Nat × List mm_I => mm_chk 297 q.1 q.2) 56 1 mm_ok297_56 (by omega) (by omega) hj
  by_cases c28 : j < 58
  · exact mm_pc (T := Nat × List mm_I) (l := mm_code.getD 297 []) (f := fun q : Nat × List mm_I => mm_chk 297 q.1 q.2) 57 1 mm_ok297_57 (by omega) (by omega) hj
  by_cases c29 : j < 59
  · exact mm_pc (T := Nat × List mm_I) (l := mm_code.getD 297 []) (f := fun q : Nat × List mm_I => mm_chk 297 q.1 q.2) 58 1 mm_ok297_58 (by omega) (by omega) hj
  by_cases c30 : j < 60
  · exact mm_pc (T := Nat × List mm_I) (l := mm_code.getD 297 []) (f := fun q : Nat × List mm_I => mm_chk 297 q.1 q.2) 59 1 mm_ok297_59 (by omega) (by omega) hj
  by_cases c31 : j < 61
  · exact mm_pc (T := Nat × List mm_I) (l := mm_code.getD 297 []) (f := fun q : Nat × List mm_I => mm_chk 297 q.1 q.2) 60 1 mm_ok297_60 (by omega) (by omega) hj
  by_cases c32 : j < 62
  · exact mm_pc (T := Nat × List mm_I) (l := mm_code.getD 297 []) (f := fun q : Nat × List mm_I => mm_chk 297 q.1 q.2) 61 1 mm_ok297_61 (by omega) (by omega) hj
  by_cases c33 : j < 63
  · exact mm_pc (T := Nat × List mm_I) (l := mm_code.getD 297 []) (f := fun q : Nat × List mm_I => mm_chk 297 q.1 q.2) 62 1 mm_ok297_62 (by omega) (by omega) hj
  by_cases c34 : j < 64
  · exact mm_pc (T := Nat × List mm_I) (l := mm_code.getD 297 []) (f := fun q : Nat × List mm_I => mm_chk 297 q.1 q.2) 63 1 mm_ok297_63 (by omega) (by omega) hj
  by_cases c35 : j < 65
  · exact mm_pc (T := Nat × List mm_I) (l := mm_code.getD 297 []) (f := fun q : Nat × List mm_I => mm_chk 297 q.1 q.2) 64 1 mm_ok297_64 (by omega) (by omega) hj
  by_cases c36 : j < 66
  · exact mm_pc (T := Nat × List mm_I) (l := mm_code.getD 297 []) (f := fun q : Nat × List mm_I => mm_chk 297 q.1 q.2) 65 1 mm_ok297_65 (by omega) (by omega) hj
  by_cases c37 : j < 67
  · exact mm_pc (T := Nat × List mm_I) (l := mm_code.getD 297 []) (f := fun q : Nat × List mm_I => mm_chk 297 q.1 q.2) 66 1 mm_ok297_66 (by omega) (by omega) hj
  by_cases c38 : j < 68
  · exact mm_pc (T := Nat × List mm_I) (l := mm_code.getD 297 []) (f := fun q : Nat × List mm_I => mm_chk 297 q.1 q.2) 67 1 mm_ok297_67 (by omega) (by omega) hj
  by_cases c39 : j < 69
  · exact mm_pc (T := Nat × List mm_I) (l := mm_code.getD 297 []) (f := fun q : Nat × List mm_I => mm_chk 297 q.1 q.2) 68 1 mm_ok297_68 (by omega) (by omega) hj
  by_cases c40 : j < 70
  · exact mm_pc (T := Nat × List mm_I) (l := mm_code.getD 297 []) (f := fun q : Nat × List mm_I => mm_chk 297 q.1 q.2) 69 1 mm_ok297_69 (by omega) (by omega) hj
  by_cases c41 : j < 71
  · exact mm_pc (T := Nat × List mm_I) (l := mm_code.getD 297 []) (f := fun q : Nat × List mm_I => mm_chk 297 q.1 q.2) 70 1 mm_ok297_70 (by omega) (by omega) hj
  by_cases c42 : j < 72
  · exact mm_pc (T := Nat × List mm_I) (l := mm_code.getD 297 []) (f := fun q : Nat × List mm_I => mm_chk 297 q.1 q.2) 71 1 mm_ok297_71 (by omega) (by omega) hj
  by_cases c43 : j < 73
  · exact mm_pc (T := Nat × List mm_I) (l := mm_code.getD 297 []) (f := fun q : Nat × List mm_I => mm_chk 297 q.1 q.2) 72 1 mm_ok297_72 (by omega) (by omega) hj
  by_cases c44 : j < 74
  · exact mm_pc (T := Nat × List mm_I) (l := mm_code.getD 297 []) (f := fun q : Nat × List mm_I => mm_chk 297 q.1 q.2) 73 1 mm_ok297_73 (by omega) (by omega) hj
  by_cases c45 : j < 75
  · exact mm_pc (T := Nat × List mm_I) (l := mm_code.getD 297 []) (f := fun q : Nat × List mm_I => mm_chk 297 q.1 q.2) 74 1 mm_ok297_74 (by omega) (by omega) hj
  by_cases c46 : j < 76
  · exact mm_pc (T := Nat × List mm_I) (l := mm_code.getD 297 []) (f := fun q : Nat × List mm_I => mm_chk 297 q.1 q.2) 75 1 mm_ok297_75 (by omega) (by omega) hj
  by_cases c47 : j < 77
  · exact mm_pc (T := Nat × List mm_I) (l := mm_code.getD 297 []) (f := fun q : Nat × List mm_I => mm_chk 297 q.1 q.2) 76 1 mm_ok297_76 (by omega) (by omega) hj
  by_cases c48 : j < 78
  · exact mm_pc (T := Nat × List mm_I) (l := mm_code.getD 297 []) (f := fun q : Nat × List mm_I => mm_chk 297 q.1 q.2) 77 1 mm_ok297_77 (by omega) (by omega) hj
  by_cases c49 : j < 79
  · exact mm_pc (T := Nat × List mm_I) (l := mm_code.getD 297 []) (f := fun q : Nat × List mm_I => mm_chk 297 q.1 q.2) 78 1 mm_ok297_78 (by omega) (by omega) hj
  by_cases c50 : j < 80
  · exact mm_pc (T := Nat × List mm_I) (l := mm_code.getD 297 []) (f := fun q : Nat × List mm_I => mm_chk 297 q.1 q.2) 79 1 mm_ok297_79 (by omega) (by omega) hj
  by_cases c51 : j < 81
  · exact mm_pc (T := Nat × List mm_I) (l := mm_code.getD 297 []) (f := fun q : Nat × List mm_I => mm_chk 297 q.1 q.2) 80 1 mm_ok297_80 (by omega) (by omega) hj
  by_cases c52 : j < 82
  · exact mm_pc (T := Nat × List mm_I) (l := mm_code.getD 297 []) (f := fun q : Nat × List mm_I => mm_chk 297 q.1 q.2) 81 1 mm_ok297_81 (by omega) (by omega) hj
  by_cases c53 : j < 83
  · exact mm_pc (T := Nat × List mm_I) (l := mm_code.getD 297 []) (f := fun q : Nat × List mm_I => mm_chk 297 q.1 q.2) 82 1 mm_ok297_82 (by omega) (by omega) hj
  exact mm_pc (T := Nat × List mm_I) (l := mm_code.getD 297 []) (f := fun q : Nat × List mm_I => mm_chk 297 q.1 q.2) 83 1 mm_ok297_83 (by omega) (by omega) hj
theorem mm_okA : ∀ y, mm_okM y = true
  | 0 => mm_ok0
  | 1 => mm_ok1
  | 2 => mm_ok2
  | 3 => mm_ok3
  | 4 => mm_ok4
  | 5 => mm_ok5
  | 6 => mm_ok6
  | 7 => mm_ok7
  | 8 => mm_ok8
  | 9 => mm_okm9
  | 10 => mm_ok10
  | 11 => mm_ok11
  | 12 => mm_ok12
  | 13 => mm_ok13
  | 14 => mm_ok14
  | 15 => mm_ok15
  | 16 => mm_ok16
  | 17 => mm_ok17
  | 18 => mm_ok18
  | 19 => mm_ok19
  | 20 => mm_ok20
  | 21 => mm_ok21
  | 22 => mm_ok22
  | 23 => mm_ok23
  | 24 => mm_ok24
  | 25 => mm_ok25
  | 26 => mm_ok26
  | 27 => mm_ok27
  | 28 => mm_ok28
  | 29 => mm_ok29
  | 30 => mm_ok30
  | 31 => mm_ok31
  | 32 => mm_ok32
  | 33 => mm_ok33
  | 34 => mm_ok34
  | 35 => mm_ok35
  | 36 => mm_ok36
  | 37 => mm_ok37
  | 38 => mm_ok38
  | 39 => mm_ok39
  | 40 => mm_ok40
  | 41 => mm_ok41
  | 42 => mm_ok42
  | 43 => mm_ok43
  | 44 => mm_ok44
  | 45 => mm_ok45
  | 46 => mm_ok46
  | 47 => mm_ok47
  | 48 => mm_ok48
  | 49 => mm_ok49
  | 50 => mm_ok50
  | 51 => mm_ok51
  | 52 => mm_ok52
  | 53 => mm_ok53
  | 54 => mm_ok54
  | 55 => mm_ok55
  | 56 => mm_ok56
  | 57 => mm_ok57
  | 58 => mm_ok58
  | 59 => mm_ok59
  | 60 => mm_ok60
  | 61 => mm_ok61
  | 62 => mm_ok62
  | 63 => mm_ok63
  | 64 => mm_ok64
  | 65 => mm_ok65
  | 66 => mm_ok66
  | 67 => mm_ok67
  | 68 => mm_ok68
  | 69 => mm_ok69
  | 70 => mm_ok70
  | 71 => mm_ok71
  | 72 => mm_ok72
  | 73 => mm_ok73
  | 74 => mm_ok74
  | 75 => mm_ok75
  | 76 => mm_ok76
  | 77 => mm_ok77
  | 78 => mm_ok78
  | 79 => mm_ok79
  | 80 => mm_ok80
  | 81 => mm_ok81
  | 82 => mm_ok82
  | 83 => mm_ok83
  | 84 => mm_ok84
  | 85 => mm_ok85
  | 86 => mm_ok86
  | 87 => mm_ok87
  | 88 => mm_ok88
  | 89 => mm_ok89
  | 90 => mm_ok90
  | 91 => mm_ok91
  | 92 => mm_ok92
  | 93 => mm_ok93
  | 94 => mm_ok94
  | 95 => mm_ok95
  | 96 => mm_ok96
  | 97 => mm_ok97
  | 98 => mm_ok98
  | 99 => mm_ok99
  | 100 => mm_ok100
  | 101 => mm_ok101
  | 102 => mm_ok102
  | 103 => mm_ok103
  | 104 => mm_ok104
  | 105 => mm_ok105
  | 106 => mm_ok106
  | 107 => mm_ok107
  | 108 => mm_ok108
  | 109 => mm_ok109
  | 110 => mm_ok110
  | 111 => mm_ok111
  | 112 => mm_ok112
  | 113 => mm_ok113
  | 114 => mm_ok114
  | 115 => mm_ok115
  | 116 => mm_ok116
  | 117 => mm_ok117
  | 118 => mm_ok118
  | 119 => mm_ok119
  | 120 => mm_ok120
  | 121 => mm_ok121
  | 122 => mm_ok122
  | 123 => mm_ok123
  | 124 => mm_ok124
  | 125 => mm_ok125
  | 126 => mm_ok126
  | 127 => mm_ok127
  | 128 => mm_ok128
  | 129 => mm_ok129
  | 130 => mm_ok130
  | 131 => mm_ok131
  | 132 => mm_ok132
  | 133 => mm_ok133
  | 134 => mm_ok134
  | 135 => mm_ok135
  | 136 => mm_ok136
  | 137 => mm_ok137
  | 138 => mm_ok138
  | 139 => mm_ok139
  | 140 => mm_ok140
  | 141 => mm_ok141
  | 142 => mm_ok142
  | 143 => mm_ok143
  | 144 => mm_ok144
  | 145 => mm_ok145
  | 146 => mm_ok146
  | 147 => mm_ok147
  | 148 => mm_ok148
  | 149 => mm_ok149
  | 150 => mm_ok150
  | 151 => mm_ok151
  | 152 => mm_ok152
  | 153 => mm_ok153
  | 154 => mm_ok154
  | 155 => mm_ok155
  | 156 => mm_ok156
  | 157 => mm_ok157
  | 158 => mm_ok158
  | 159 => mm_ok159
  | 160 => mm_ok160
  | 161 => mm_ok161
  | 162 => mm_ok162
  | 163 => mm_ok163
  | 164 => mm_ok164
  | 165 => mm_ok165
  | 166 => mm_ok166
  | 167 => mm_ok167
  | 168 => mm_ok168
  | 169 => mm_ok169
  | 170 => mm_ok170
  | 171 => mm_ok171
  | 172 => mm_ok172
  | 173 => mm_ok173
  | 174 => mm_ok174
  | 175 => mm_ok175
  | 176 => mm_ok176
  | 177 => mm_ok177
  | 178 => mm_ok178
  | 179 => mm_ok179
  | 180 => mm_ok180
  | 181 => mm_ok181
  | 182 => mm_ok182
  | 183 => mm_ok183
  | 184 => mm_ok184
  | 185 => mm_ok185
  | 186 => mm_ok186
  | 187 => mm_ok187
  | 188 => mm_ok188
  | 189 => mm_ok189
  | 190 => mm_ok190
  | 191 => mm_ok191
  | 192 => mm_ok192
  | 193 => mm_ok193
  | 194 => mm_ok194
  | 195 => mm_ok195
  | 196 => mm_ok196
  | 197 => mm_ok197
  | 198 => mm_ok198
  | 199 => mm_ok199
  | 200 => mm_ok200
  | 201 => mm_ok201
  | 202 => mm_ok202
  | 203 => mm_ok203
  | 204 => mm_ok204
  | 205 => mm_ok205
  | 206 => mm_ok206
  | 207 => mm_ok207
  | 208 => mm_ok208
  | 209 => mm_ok209
  | 210 => mm_ok210
  | 211 => mm_ok211
  | 212 => mm_ok212
  | 213 => mm_ok213
  | 214 => mm_ok214
  | 215 => mm_ok215
  | 216 => mm_ok216
  | 217 => mm_ok217
  | 218 => mm_ok218
  | 219 => mm_ok219
  | 220 => mm_ok220
  | 221 => mm_ok221
  | 222 => mm_ok222
  | 223 => mm_ok223
  | 224 => mm_ok224
  | 225 => mm_ok225
  | 226 => mm_ok226
  | 227 => mm_ok227
  | 228 => mm_ok228
  | 229 => mm_ok229
  | 230 => mm_ok230
  | 231 => mm_ok231
  | 232 => mm_ok232
  | 233 => mm_ok233
  | 234 => mm_ok234
  | 235 => mm_ok235
  | 236 => mm_ok236
  | 237 => mm_ok237
  | 238 => mm_ok238
  | 239 => mm_ok239
  | 240 => mm_ok240
  | 241 => mm_ok241
  | 242 => mm_ok242
  | 243 => mm_ok243
  | 244 => mm_ok244
  | 245 => mm_ok245
  | 246 => mm_ok246
  | 247 => mm_ok247
  | 248 => mm_ok248
  | 249 => mm_ok249
  | 250 => mm_ok250
  | 251 => mm_ok251
  | 252 => mm_ok252
  | 253 => mm_ok253
  | 254 => mm_ok254
  | 255 => mm_ok255
  | 256 => mm_ok256
  | 257 => mm_ok257
  | 258 => mm_ok258
  | 259 => mm_ok259
  | 260 => mm_ok260
  | 261 => mm_ok261
  | 262 => mm_ok262
  | 263 => mm_ok263
  | 264 => mm_ok264
  | 265 => mm_ok265
  | 266 => mm_ok266
  | 267 => mm_ok267
  | 268 => mm_ok268
  | 269 => mm_ok269
  | 270 => mm_ok270
  | 271 => mm_ok271
  | 272 => mm_ok272
  | 273 => mm_ok273
  | 274 => mm_ok274
  | 275 => mm_ok275
  | 276 => mm_ok276
  | 277 => mm_ok277
  | 278 => mm_ok278
  | 279 => mm_ok279
  | 280 => mm_ok280
  | 281 => mm_ok281
  | 282 => mm_ok282
  | 283 => mm_ok283
  | 284 => mm_ok284
  | 285 => mm_ok285
  | 286 => mm_ok286
  | 287 => mm_ok287
  | 288 => mm_ok288
  | 289 => mm_ok289
  | 290 => mm_ok290
  | 291 => mm_ok291
  | 292 => mm_ok292
  | 293 => mm_ok293
  | 294 => mm_ok294
  | 295 => mm_ok295
  | 296 => mm_ok296
  | 297 => mm_ok297
  | 298 => mm_ok298
  | 299 => mm_ok299
  | 300 => mm_ok300
  | 301 => mm_ok301
  | 302 => mm_ok302
  | 303 => mm_ok303
  | 304 => mm_ok304
  | 305 => mm_ok305
  | 306 => mm_ok306
  | y + 307 => by
    have e : mm_code.getD (y + 307) [] = [] := by rw [List.getD_eq_getElem?_getD, List.getElem?_eq_none (by rw [show mm_code.length = 307 by decide +kernel]; omega)]; rfl
    unfold mm_okM
    rw [e]
    rfl
