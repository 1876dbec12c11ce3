set_option maxRecDepth 100000 in
set_option maxHeartbeats 8000000 in
theorem st10_1 {D : va_G} {cA cL : ClassId} {A : Nat → Prop} {p : Program} {l : Launch} {e : Env} {R : Room} {st : State} {m : MethodId} {args : Array Value} {below : List Frame} {meth : Method} {c : Code} {Q : State → Prop} {a q1 q2 q3 q4 q5 q6 q7 ce sl : Nat} {lv : List (Nat × Value)} {rest : List Value} (X : CX D cA cL A p st m args meth c cX10_init 1 RX10) (k : CG D A p l e R st m args below meth c Q 1 (x10W cA a q1 q2 q3 q4 q5 q6 q7 (wf 26)) ce sl 213 lv (.ref q7 :: rest)) : CG D A p l e R st m args below meth c Q 1 (x10W cA a q1 q2 q3 q4 q5 q6 q7 (wf 1)) ce sl 68 lv (.ref q7 :: rest) := by
  refine h_dup X dX10_init_68 (q := 69) rfl rfl ?_
  refine h_iconst X dX10_init_69 (q := 70) rfl li_i1 ?_
  refine h_bipush X dX10_init_70 (q := 72) rfl li_b103 ?_
  refine h_iastW X 7 (x10W_at cA a q1 q2 q3 q4 q5 q6 q7 (wf 1)) (i := (1 : Int32)) (j := 1) (by decide +kernel) (by decide +kernel) dX10_init_72 (q := 73) rfl (wf_s 1 (by decide +kernel)) (x10W_set cA a q1 q2 q3 q4 q5 q6 q7 (wf 1) (wf 2)) ?_
  refine h_dup X dX10_init_73 (q := 74) rfl rfl ?_
  refine h_iconst X dX10_init_74 (q := 75) rfl li_i2 ?_
  refine h_bipush X dX10_init_75 (q := 77) rfl li_b117 ?_
  refine h_iastW X 7 (x10W_at cA a q1 q2 q3 q4 q5 q6 q7 (wf 2)) (i := (2 : Int32)) (j := 2) (by decide +kernel) (by decide +kernel) dX10_init_77 (q := 78) rfl (wf_s 2 (by decide +kernel)) (x10W_set cA a q1 q2 q3 q4 q5 q6 q7 (wf 2) (wf 3)) ?_
  refine h_dup X dX10_init_78 (q := 79) rfl rfl ?_
  refine h_iconst X dX10_init_79 (q := 80) rfl li_i3 ?_
  refine h_bipush X dX10_init_80 (q := 82) rfl li_b115 ?_
  refine h_iastW X 7 (x10W_at cA a q1 q2 q3 q4 q5 q6 q7 (wf 3)) (i := (3 : Int32)) (j := 3) (by decide +kernel) (by decide +kernel) dX10_init_82 (q := 83) rfl (wf_s 3 (by decide +kernel)) (x10W_set cA a q1 q2 q3 q4 q5 q6 q7 (wf 3) (wf 4)) ?_
  refine h_dup X dX10_init_83 (q := 84) rfl rfl ?_
  refine h_iconst X dX10_init_84 (q := 85) rfl li_i4 ?_
  refine h_bipush X dX10_init_85 (q := 87) rfl li_b116 ?_
  refine h_iastW X 7 (x10W_at cA a q1 q2 q3 q4 q5 q6 q7 (wf 4)) (i := (4 : Int32)) (j := 4) (by decide +kernel) (by decide +kernel) dX10_init_87 (q := 88) rfl (wf_s 4 (by decide +kernel)) (x10W_set cA a q1 q2 q3 q4 q5 q6 q7 (wf 4) (wf 5)) ?_
  refine h_dup X dX10_init_88 (q := 89) rfl rfl ?_
  refine h_iconst X dX10_init_89 (q := 90) rfl li_i5 ?_
  refine h_bipush X dX10_init_90 (q := 92) rfl li_b32 ?_
  refine h_iastW X 7 (x10W_at cA a q1 q2 q3 q4 q5 q6 q7 (wf 5)) (i := (5 : Int32)) (j := 5) (by decide +kernel) (by decide +kernel) dX10_init_92 (q := 93) rfl (wf_s 5 (by decide +kernel)) (x10W_set cA a q1 q2 q3 q4 q5 q6 q7 (wf 5) (wf 6)) ?_
  refine h_dup X dX10_init_93 (q := 94) rfl rfl ?_
  refine h_bipush X dX10_init_94 (q := 96) rfl li_b6 ?_
  refine h_bipush X dX10_init_96 (q := 98) rfl li_b104 ?_
  refine h_iastW X 7 (x10W_at cA a q1 q2 q3 q4 q5 q6 q7 (wf 6)) (i := (6 : Int32)) (j := 6) (by decide +kernel) (by decide +kernel) dX10_init_98 (q := 99) rfl (wf_s 6 (by decide +kernel)) (x10W_set cA a q1 q2 q3 q4 q5 q6 q7 (wf 6) (wf 7)) ?_
  refine h_dup X dX10_init_99 (q := 100) rfl rfl ?_
  refine h_bipush X dX10_init_100 (q := 102) rfl li_b7 ?_
  refine h_bipush X dX10_init_102 (q := 104) rfl li_b97 ?_
  refine h_iastW X 7 (x10W_at cA a q1 q2 q3 q4 q5 q6 q7 (wf 7)) (i := (7 : Int32)) (j := 7) (by decide +kernel) (by decide +kernel) dX10_init_104 (q := 105) rfl (wf_s 7 (by decide +kernel)) (x10W_set cA a q1 q2 q3 q4 q5 q6 q7 (wf 7) (wf 8)) ?_
  refine h_dup X dX10_init_105 (q := 106) rfl rfl ?_
  refine h_bipush X dX10_init_106 (q := 108) rfl li_b8 ?_
  refine h_bipush X dX10_init_108 (q := 110) rfl li_b114 ?_
  refine h_iastW X 7 (x10W_at cA a q1 q2 q3 q4 q5 q6 q7 (wf 8)) (i := (8 : Int32)) (j := 8) (by decide +kernel) (by decide +kernel) dX10_init_110 (q := 111) rfl (wf_s 8 (by decide +kernel)) (x10W_set cA a q1 q2 q3 q4 q5 q6 q7 (wf 8) (wf 9)) ?_
  refine h_dup X dX10_init_111 (q := 112) rfl rfl ?_
  refine h_bipush X dX10_init_112 (q := 114) rfl li_b9 ?_
  refine h_bipush X dX10_init_114 (q := 116) rfl li_b109 ?_
  refine h_iastW X 7 (x10W_at cA a q1 q2 q3 q4 q5 q6 q7 (wf 9)) (i := (9 : Int32)) (j := 9) (by decide +kernel) (by decide +kernel) dX10_init_116 (q := 117) rfl (wf_s 9 (by decide +kernel)) (x10W_set cA a q1 q2 q3 q4 q5 q6 q7 (wf 9) (wf 10)) ?_
  refine h_dup X dX10_init_117 (q := 118) rfl rfl ?_
  refine h_bipush X dX10_init_118 (q := 120) rfl li_b10 ?_
  refine h_bipush X dX10_init_120 (q := 122) rfl li_b32 ?_
  refine h_iastW X 7 (x10W_at cA a q1 q2 q3 q4 q5 q6 q7 (wf 10)) (i := (10 : Int32)) (j := 10) (by decide +kernel) (by decide +kernel) dX10_init_122 (q := 123) rfl (wf_s 10 (by decide +kernel)) (x10W_set cA a q1 q2 q3 q4 q5 q6 q7 (wf 10) (wf 11)) ?_
  refine h_dup X dX10_init_123 (q := 124) rfl rfl ?_
  refine h_bipush X dX10_init_124 (q := 126) rfl li_b11 ?_
  refine h_bipush X dX10_init_126 (q := 128) rfl li_b119 ?_
  refine h_iastW X 7 (x10W_at cA a q1 q2 q3 q4 q5 q6 q7 (wf 11)) (i := (11 : Int32)) (j := 11) (by decide +kernel) (by decide +kernel) dX10_init_128 (q := 129) rfl (wf_s 11 (by decide +kernel)) (x10W_set cA a q1 q2 q3 q4 q5 q6 q7 (wf 11) (wf 12)) ?_
  refine h_dup X dX10_init_129 (q := 130) rfl rfl ?_
  refine h_bipush X dX10_init_130 (q := 132) rfl li_b12 ?_
  refine h_bipush X dX10_init_132 (q := 134) rfl li_b104 ?_
  refine h_iastW X 7 (x10W_at cA a q1 q2 q3 q4 q5 q6 q7 (wf 12)) (i := (12 : Int32)) (j := 12) (by decide +kernel) (by decide +kernel) dX10_init_134 (q := 135) rfl (wf_s 12 (by decide +kernel)) (x10W_set cA a q1 q2 q3 q4 q5 q6 q7 (wf 12) (wf 13)) ?_
  refine h_dup X dX10_init_135 (q := 136) rfl rfl ?_
  refine h_bipush X dX10_init_136 (q := 138) rfl li_b13 ?_
  refine h_bipush X dX10_init_138 (q := 140) rfl li_b101 ?_
  refine h_iastW X 7 (x10W_at cA a q1 q2 q3 q4 q5 q6 q7 (wf 13)) (i := (13 : Int32)) (j := 13) (by decide +kernel) (by decide +kernel) dX10_init_140 (q := 141) rfl (wf_s 13 (by decide +kernel)) (x10W_set cA a q1 q2 q3 q4 q5 q6 q7 (wf 13) (wf 14)) ?_
  refine h_dup X dX10_init_141 (q := 142) rfl rfl ?_
  refine h_bipush X dX10_init_142 (q := 144) rfl li_b14 ?_
  refine h_bipush X dX10_init_144 (q := 146) rfl li_b110 ?_
  refine h_iastW X 7 (x10W_at cA a q1 q2 q3 q4 q5 q6 q7 (wf 14)) (i := (14 : Int32)) (j := 14) (by decide +kernel) (by decide +kernel) dX10_init_146 (q := 147) rfl (wf_s 14 (by decide +kernel)) (x10W_set cA a q1 q2 q3 q4 q5 q6 q7 (wf 14) (wf 15)) ?_
  refine h_dup X dX10_init_147 (q := 148) rfl rfl ?_
  refine h_bipush X dX10_init_148 (q := 150) rfl li_b15 ?_
  refine h_bipush X dX10_init_150 (q := 152) rfl li_b32 ?_
  refine h_iastW X 7 (x10W_at cA a q1 q2 q3 q4 q5 q6 q7 (wf 15)) (i := (15 : Int32)) (j := 15) (by decide +kernel) (by decide +kernel) dX10_init_152 (q := 153) rfl (wf_s 15 (by decide +kernel)) (x10W_set cA a q1 q2 q3 q4 q5 q6 q7 (wf 15) (wf 16)) ?_
  refine h_dup X dX10_init_153 (q := 154) rfl rfl ?_
  refine h_bipush X dX10_init_154 (q := 156) rfl li_b16 ?_
  refine h_bipush X dX10_init_156 (q := 158) rfl li_b111 ?_
  refine h_iastW X 7 (x10W_at cA a q1 q2 q3 q4 q5 q6 q7 (wf 16)) (i := (16 : Int32)) (j := 16) (by decide +kernel) (by decide +kernel) dX10_init_158 (q := 159) rfl (wf_s 16 (by decide +kernel)) (x10W_set cA a q1 q2 q3 q4 q5 q6 q7 (wf 16) (wf 17)) ?_
  refine h_dup X dX10_init_159 (q := 160) rfl rfl ?_
  refine h_bipush X dX10_init_160 (q := 162) rfl li_b17 ?_
  refine h_bipush X dX10_init_162 (q := 164) rfl li_b114 ?_
  refine h_iastW X 7 (x10W_at cA a q1 q2 q3 q4 q5 q6 q7 (wf 17)) (i := (17 : Int32)) (j := 17) (by decide +kernel) (by decide +kernel) dX10_init_164 (q := 165) rfl (wf_s 17 (by decide +kernel)) (x10W_set cA a q1 q2 q3 q4 q5 q6 q7 (wf 17) (wf 18)) ?_
  refine h_dup X dX10_init_165 (q := 166) rfl rfl ?_
  refine h_bipush X dX10_init_166 (q := 168) rfl li_b18 ?_
  refine h_bipush X dX10_init_168 (q := 170) rfl li_b32 ?_
  refine h_iastW X 7 (x10W_at cA a q1 q2 q3 q4 q5 q6 q7 (wf 18)) (i := (18 : Int32)) (j := 18) (by decide +kernel) (by decide +kernel) dX10_init_170 (q := 171) rfl (wf_s 18 (by decide +kernel)) (x10W_set cA a q1 q2 q3 q4 q5 q6 q7 (wf 18) (wf 19)) ?_
  refine h_dup X dX10_init_171 (q := 172) rfl rfl ?_
  refine h_bipush X dX10_init_172 (q := 174) rfl li_b19 ?_
  refine h_bipush X dX10_init_174 (q := 176) rfl li_b97 ?_
  refine h_iastW X 7 (x10W_at cA a q1 q2 q3 q4 q5 q6 q7 (wf 19)) (i := (19 : Int32)) (j := 19) (by decide +kernel) (by decide +kernel) dX10_init_176 (q := 177) rfl (wf_s 19 (by decide +kernel)) (x10W_set cA a q1 q2 q3 q4 q5 q6 q7 (wf 19) (wf 20)) ?_
  refine h_dup X dX10_init_177 (q := 178) rfl rfl ?_
  refine h_bipush X dX10_init_178 (q := 180) rfl li_b20 ?_
  refine h_bipush X dX10_init_180 (q := 182) rfl li_b110 ?_
  refine h_iastW X 7 (x10W_at cA a q1 q2 q3 q4 q5 q6 q7 (wf 20)) (i := (20 : Int32)) (j := 20) (by decide +kernel) (by decide +kernel) dX10_init_182 (q := 183) rfl (wf_s 20 (by decide +kernel)) (x10W_set cA a q1 q2 q3 q4 q5 q6 q7 (wf 20) (wf 21)) ?_
  refine h_dup X dX10_init_183 (q := 184) rfl rfl ?_
  refine h_bipush X dX10_init_184 (q := 186) rfl li_b21 ?_
  refine h_bipush X dX10_init_186 (q := 188) rfl li_b100 ?_
  refine h_iastW X 7 (x10W_at cA a q1 q2 q3 q4 q5 q6 q7 (wf 21)) (i := (21 : Int32)) (j := 21) (by decide +kernel) (by decide +kernel) dX10_init_188 (q := 189) rfl (wf_s 21 (by decide +kernel)) (x10W_set cA a q1 q2 q3 q4 q5 q6 q7 (wf 21) (wf 22)) ?_
  refine h_dup X dX10_init_189 (q := 190) rfl rfl ?_
  refine h_bipush X dX10_init_190 (q := 192) rfl li_b22 ?_
  refine h_bipush X dX10_init_192 (q := 194) rfl li_b32 ?_
  refine h_iastW X 7 (x10W_at cA a q1 q2 q3 q4 q5 q6 q7 (wf 22)) (i := (22 : Int32)) (j := 22) (by decide +kernel) (by decide +kernel) dX10_init_194 (q := 195) rfl (wf_s 22 (by decide +kernel)) (x10W_set cA a q1 q2 q3 q4 q5 q6 q7 (wf 22) (wf 23)) ?_
  refine h_dup X dX10_init_195 (q := 196) rfl rfl ?_
  refine h_bipush X dX10_init_196 (q := 198) rfl li_b23 ?_
  refine h_bipush X dX10_init_198 (q := 200) rfl li_b110 ?_
  refine h_iastW X 7 (x10W_at cA a q1 q2 q3 q4 q5 q6 q7 (wf 23)) (i := (23 : Int32)) (j := 23) (by decide +kernel) (by decide +kernel) dX10_init_200 (q := 201) rfl (wf_s 23 (by decide +kernel)) (x10W_set cA a q1 q2 q3 q4 q5 q6 q7 (wf 23) (wf 24)) ?_
  refine h_dup X dX10_init_201 (q := 202) rfl rfl ?_
  refine h_bipush X dX10_init_202 (q := 204) rfl li_b24 ?_
  refine h_bipush X dX10_init_204 (q := 206) rfl li_b111 ?_
  refine h_iastW X 7 (x10W_at cA a q1 q2 q3 q4 q5 q6 q7 (wf 24)) (i := (24 : Int32)) (j := 24) (by decide +kernel) (by decide +kernel) dX10_init_206 (q := 207) rfl (wf_s 24 (by decide +kernel)) (x10W_set cA a q1 q2 q3 q4 q5 q6 q7 (wf 24) (wf 25)) ?_
  refine h_dup X dX10_init_207 (q := 208) rfl rfl ?_
  refine h_bipush X dX10_init_208 (q := 210) rfl li_b25 ?_
  refine h_bipush X dX10_init_210 (q := 212) rfl li_b116 ?_
  refine h_iastW X 7 (x10W_at cA a q1 q2 q3 q4 q5 q6 q7 (wf 25)) (i := (25 : Int32)) (j := 25) (by decide +kernel) (by decide +kernel) dX10_init_212 (q := 213) rfl (wf_s 25 (by decide +kernel)) (x10W_set cA a q1 q2 q3 q4 q5 q6 q7 (wf 25) (wf 26)) ?_
  exact k
set_option maxRecDepth 100000 in
set_option maxHeartbeats 8000000 in
theorem st10_26 {D : va_G} {cA cL : ClassId} {A : Nat → Prop} {p : Program} {l : Launch} {e : Env} {R : Room} {st : State} {m : MethodId} {args : Array Value} {below : List Frame} {meth : Method} {c : Code} {Q : State → Prop} {a q1 q2 q3 q4 q5 q6 q7 ce sl : Nat} {lv : List (Nat × Value)} {rest : List Value} (X : CX D cA cL A p st m args meth c cX10_init 1 RX10) (k : CG D A p l e R st m args below meth c Q 1 (x10W cA a q1 q2 q3 q4 q5 q6 q7 (wf 51)) ce sl 363 lv (.ref q7 :: rest)) : CG D A p l e R st m args below meth c Q 1 (x10W cA a q1 q2 q3 q4 q5 q6 q7 (wf 26)) ce sl 213 lv (.ref q7 :: rest) := by
  refine h_dup X dX10_init_213 (q := 214) rfl rfl ?_
  refine h_bipush X dX10_init_214 (q := 216) rfl li_b26 ?_
  refine h_bipush X dX10_init_216 (q := 218) rfl li_b32 ?_
  refine h_iastW X 7 (x10W_at cA a q1 q2 q3 q4 q5 q6 q7 (wf 26)) (i := (26 : Int32)) (j := 26) (by decide +kernel) (by decide +kernel) dX10_init_218 (q := 219) rfl (wf_s 26 (by decide +kernel)) (x10W_set cA a q1 q2 q3 q4 q5 q6 q7 (wf 26) (wf 27)) ?_
  refine h_dup X dX10_init_219 (q := 220) rfl rfl ?_
  refine h_bipush X dX10_init_220 (q := 222) rfl li_b27 ?_
  refine h_bipush X dX10_init_222 (q := 224) rfl li_b107 ?_
  refine h_iastW X 7 (x10W_at cA a q1 q2 q3 q4 q5 q6 q7 (wf 27)) (i := (27 : Int32)) (j := 27) (by decide +kernel) (by decide +kernel) dX10_init_224 (q := 225) rfl (wf_s 27 (by decide +kernel)) (x10W_set cA a q1 q2 q3 q4 q5 q6 q7 (wf 27) (wf 28)) ?_
  refine h_dup X dX10_init_225 (q := 226) rfl rfl ?_
  refine h_bipush X dX10_init_226 (q := 228) rfl li_b28 ?_
  refine h_bipush X dX10_init_228 (q := 230) rfl li_b105 ?_
  refine h_iastW X 7 (x10W_at cA a q1 q2 q3 q4 q5 q6 q7 (wf 28)) (i := (28 : Int32)) (j := 28) (by decide +kernel) (by decide +kernel) dX10_init_230 (q := 231) rfl (wf_s 28 (by decide +kernel)) (x10W_set cA a q1 q2 q3 q4 q5 q6 q7 (wf 28) (wf 29)) ?_
  refine h_dup X dX10_init_231 (q := 232) rfl rfl ?_
  refine h_bipush X dX10_init_232 (q := 234) rfl li_b29 ?_
  refine h_bipush X dX10_init_234 (q := 236) rfl li_b110 ?_
  refine h_iastW X 7 (x10W_at cA a q1 q2 q3 q4 q5 q6 q7 (wf 29)) (i := (29 : Int32)) (j := 29) (by decide +kernel) (by decide +kernel) dX10_init_236 (q := 237) rfl (wf_s 29 (by decide +kernel)) (x10W_set cA a q1 q2 q3 q4 q5 q6 q7 (wf 29) (wf 30)) ?_
  refine h_dup X dX10_init_237 (q := 238) rfl rfl ?_
  refine h_bipush X dX10_init_238 (q := 240) rfl li_b30 ?_
  refine h_bipush X dX10_init_240 (q := 242) rfl li_b100 ?_
  refine h_iastW X 7 (x10W_at cA a q1 q2 q3 q4 q5 q6 q7 (wf 30)) (i := (30 : Int32)) (j := 30) (by decide +kernel) (by decide +kernel) dX10_init_242 (q := 243) rfl (wf_s 30 (by decide +kernel)) (x10W_set cA a q1 q2 q3 q4 q5 q6 q7 (wf 30) (wf 31)) ?_
  refine h_dup X dX10_init_243 (q := 244) rfl rfl ?_
  refine h_bipush X dX10_init_244 (q := 246) rfl li_b31 ?_
  refine h_bipush X dX10_init_246 (q := 248) rfl li_b32 ?_
  refine h_iastW X 7 (x10W_at cA a q1 q2 q3 q4 q5 q6 q7 (wf 31)) (i := (31 : Int32)) (j := 31) (by decide +kernel) (by decide +kernel) dX10_init_248 (q := 249) rfl (wf_s 31 (by decide +kernel)) (x10W_set cA a q1 q2 q3 q4 q5 q6 q7 (wf 31) (wf 32)) ?_
  refine h_dup X dX10_init_249 (q := 250) rfl rfl ?_
  refine h_bipush X dX10_init_250 (q := 252) rfl li_b32 ?_
  refine h_bipush X dX10_init_252 (q := 254) rfl li_b119 ?_
  refine h_iastW X 7 (x10W_at cA a q1 q2 q3 q4 q5 q6 q7 (wf 32)) (i := (32 : Int32)) (j := 32) (by decide +kernel) (by decide +kernel) dX10_init_254 (q := 255) rfl (wf_s 32 (by decide +kernel)) (x10W_set cA a q1 q2 q3 q4 q5 q6 q7 (wf 32) (wf 33)) ?_
  refine h_dup X dX10_init_255 (q := 256) rfl rfl ?_
  refine h_bipush X dX10_init_256 (q := 258) rfl li_b33 ?_
  refine h_bipush X dX10_init_258 (q := 260) rfl li_b101 ?_
  refine h_iastW X 7 (x10W_at cA a q1 q2 q3 q4 q5 q6 q7 (wf 33)) (i := (33 : Int32)) (j := 33) (by decide +kernel) (by decide +kernel) dX10_init_260 (q := 261) rfl (wf_s 33 (by decide +kernel)) (x10W_set cA a q1 q2 q3 q4 q5 q6 q7 (wf 33) (wf 34)) ?_
  refine h_dup X dX10_init_261 (q := 262) rfl rfl ?_
  refine h_bipush X dX10_init_262 (q := 264) rfl li_b34 ?_
  refine h_bipush X dX10_init_264 (q := 266) rfl li_b116 ?_
  refine h_iastW X 7 (x10W_at cA a q1 q2 q3 q4 q5 q6 q7 (wf 34)) (i := (34 : Int32)) (j := 34) (by decide +kernel) (by decide +kernel) dX10_init_266 (q := 267) rfl (wf_s 34 (by decide +kernel)) (x10W_set cA a q1 q2 q3 q4 q5 q6 q7 (wf 34) (wf 35)) ?_
  refine h_dup X dX10_init_267 (q := 268) rfl rfl ?_
  refine h_bipush X dX10_init_268 (q := 270) rfl li_b35 ?_
  refine h_bipush X dX10_init_270 (q := 272) rfl li_b32 ?_
  refine h_iastW X 7 (x10W_at cA a q1 q2 q3 q4 q5 q6 q7 (wf 35)) (i := (35 : Int32)) (j := 35) (by decide +kernel) (by decide +kernel) dX10_init_272 (q := 273) rfl (wf_s 35 (by decide +kernel)) (x10W_set cA a q1 q2 q3 q4 q5 q6 q7 (wf 35) (wf 36)) ?_
  refine h_dup X dX10_init_273 (q := 274) rfl rfl ?_
  refine h_bipush X dX10_init_274 (q := 276) rfl li_b36 ?_
  refine h_bipush X dX10_init_276 (q := 278) rfl li_b115 ?_
  refine h_iastW X 7 (x10W_at cA a q1 q2 q3 q4 q5 q6 q7 (wf 36)) (i := (36 : Int32)) (j := 36) (by decide +kernel) (by decide +kernel) dX10_init_278 (q := 279) rfl (wf_s 36 (by decide +kernel)) (x10W_set cA a q1 q2 q3 q4 q5 q6 q7 (wf 36) (wf 37)) ?_
  refine h_dup X dX10_init_279 (q := 280) rfl rfl ?_
  refine h_bipush X dX10_init_280 (q := 282) rfl li_b37 ?_
  refine h_bipush X dX10_init_282 (q := 284) rfl li_b111 ?_
  refine h_iastW X 7 (x10W_at cA a q1 q2 q3 q4 q5 q6 q7 (wf 37)) (i := (37 : Int32)) (j := 37) (by decide +kernel) (by decide +kernel) dX10_init_284 (q := 285) rfl (wf_s 37 (by decide +kernel)) (x10W_set cA a q1 q2 q3 q4 q5 q6 q7 (wf 37) (wf 38)) ?_
  refine h_dup X dX10_init_285 (q := 286) rfl rfl ?_
  refine h_bipush X dX10_init_286 (q := 288) rfl li_b38 ?_
  refine h_bipush X dX10_init_288 (q := 290) rfl li_b105 ?_
  refine h_iastW X 7 (x10W_at cA a q1 q2 q3 q4 q5 q6 q7 (wf 38)) (i := (38 : Int32)) (j := 38) (by decide +kernel) (by decide +kernel) dX10_init_290 (q := 291) rfl (wf_s 38 (by decide +kernel)) (x10W_set cA a q1 q2 q3 q4 q5 q6 q7 (wf 38) (wf 39)) ?_
  refine h_dup X dX10_init_291 (q := 292) rfl rfl ?_
  refine h_bipush X dX10_init_292 (q := 294) rfl li_b39 ?_
  refine h_bipush X dX10_init_294 (q := 296) rfl li_b108 ?_
  refine h_iastW X 7 (x10W_at cA a q1 q2 q3 q4 q5 q6 q7 (wf 39)) (i := (39 : Int32)) (j := 39) (by decide +kernel) (by decide +kernel) dX10_init_296 (q := 297) rfl (wf_s 39 (by decide +kernel)) (x10W_set cA a q1 q2 q3 q4 q5 q6 q7 (wf 39) (wf 40)) ?_
  refine h_dup X dX10_init_297 (q := 298) rfl rfl ?_
  refine h_bipush X dX10_init_298 (q := 300) rfl li_b40 ?_
  refine h_bipush X dX10_init_300 (q := 302) rfl li_b32 ?_
  refine h_iastW X 7 (x10W_at cA a q1 q2 q3 q4 q5 q6 q7 (wf 40)) (i := (40 : Int32)) (j := 40) (by decide +kernel) (by decide +kernel) dX10_init_302 (q := 303) rfl (wf_s 40 (by decide +kernel)) (x10W_set cA a q1 q2 q3 q4 q5 q6 q7 (wf 40) (wf 41)) ?_
  refine h_dup X dX10_init_303 (q := 304) rfl rfl ?_
  refine h_bipush X dX10_init_304 (q := 306) rfl li_b41 ?_
  refine h_bipush X dX10_init_306 (q := 308) rfl li_b98 ?_
  refine h_iastW X 7 (x10W_at cA a q1 q2 q3 q4 q5 q6 q7 (wf 41)) (i := (41 : Int32)) (j := 41) (by decide +kernel) (by decide +kernel) dX10_init_308 (q := 309) rfl (wf_s 41 (by decide +kernel)) (x10W_set cA a q1 q2 q3 q4 q5 q6 q7 (wf 41) (wf 42)) ?_
  refine h_dup X dX10_init_309 (q := 310) rfl rfl ?_
  refine h_bipush X dX10_init_310 (q := 312) rfl li_b42 ?_
  refine h_bipush X dX10_init_312 (q := 314) rfl li_b101 ?_
  refine h_iastW X 7 (x10W_at cA a q1 q2 q3 q4 q5 q6 q7 (wf 42)) (i := (42 : Int32)) (j := 42) (by decide +kernel) (by decide +kernel) dX10_init_314 (q := 315) rfl (wf_s 42 (by decide +kernel)) (x10W_set cA a q1 q2 q3 q4 q5 q6 q7 (wf 42) (wf 43)) ?_
  refine h_dup X dX10_init_315 (q := 316) rfl rfl ?_
  refine h_bipush X dX10_init_316 (q := 318) rfl li_b43 ?_
  refine h_bipush X dX10_init_318 (q := 320) rfl li_b115 ?_
  refine h_iastW X 7 (x10W_at cA a q1 q2 q3 q4 q5 q6 q7 (wf 43)) (i := (43 : Int32)) (j := 43) (by decide +kernel) (by decide +kernel) dX10_init_320 (q := 321) rfl (wf_s 43 (by decide +kernel)) (x10W_set cA a q1 q2 q3 q4 q5 q6 q7 (wf 43) (wf 44)) ?_
  refine h_dup X dX10_init_321 (q := 322) rfl rfl ?_
  refine h_bipush X dX10_init_322 (q := 324) rfl li_b44 ?_
  refine h_bipush X dX10_init_324 (q := 326) rfl li_b105 ?_
  refine h_iastW X 7 (x10W_at cA a q1 q2 q3 q4 q5 q6 q7 (wf 44)) (i := (44 : Int32)) (j := 44) (by decide +kernel) (by decide +kernel) dX10_init_326 (q := 327) rfl (wf_s 44 (by decide +kernel)) (x10W_set cA a q1 q2 q3 q4 q5 q6 q7 (wf 44) (wf 45)) ?_
  refine h_dup X dX10_init_327 (q := 328) rfl rfl ?_
  refine h_bipush X dX10_init_328 (q := 330) rfl li_b45 ?_
  refine h_bipush X dX10_init_330 (q := 332) rfl li_b100 ?_
  refine h_iastW X 7 (x10W_at cA a q1 q2 q3 q4 q5 q6 q7 (wf 45)) (i := (45 : Int32)) (j := 45) (by decide +kernel) (by decide +kernel) dX10_init_332 (q := 333) rfl (wf_s 45 (by decide +kernel)) (x10W_set cA a q1 q2 q3 q4 q5 q6 q7 (wf 45) (wf 46)) ?_
  refine h_dup X dX10_init_333 (q := 334) rfl rfl ?_
  refine h_bipush X dX10_init_334 (q := 336) rfl li_b46 ?_
  refine h_bipush X dX10_init_336 (q := 338) rfl li_b101 ?_
  refine h_iastW X 7 (x10W_at cA a q1 q2 q3 q4 q5 q6 q7 (wf 46)) (i := (46 : Int32)) (j := 46) (by decide +kernel) (by decide +kernel) dX10_init_338 (q := 339) rfl (wf_s 46 (by decide +kernel)) (x10W_set cA a q1 q2 q3 q4 q5 q6 q7 (wf 46) (wf 47)) ?_
  refine h_dup X dX10_init_339 (q := 340) rfl rfl ?_
  refine h_bipush X dX10_init_340 (q := 342) rfl li_b47 ?_
  refine h_bipush X dX10_init_342 (q := 344) rfl li_b32 ?_
  refine h_iastW X 7 (x10W_at cA a q1 q2 q3 q4 q5 q6 q7 (wf 47)) (i := (47 : Int32)) (j := 47) (by decide +kernel) (by decide +kernel) dX10_init_344 (q := 345) rfl (wf_s 47 (by decide +kernel)) (x10W_set cA a q1 q2 q3 q4 q5 q6 q7 (wf 47) (wf 48)) ?_
  refine h_dup X dX10_init_345 (q := 346) rfl rfl ?_
  refine h_bipush X dX10_init_346 (q := 348) rfl li_b48 ?_
  refine h_bipush X dX10_init_348 (q := 350) rfl li_b100 ?_
  refine h_iastW X 7 (x10W_at cA a q1 q2 q3 q4 q5 q6 q7 (wf 48)) (i := (48 : Int32)) (j := 48) (by decide +kernel) (by decide +kernel) dX10_init_350 (q := 351) rfl (wf_s 48 (by decide +kernel)) (x10W_set cA a q1 q2 q3 q4 q5 q6 q7 (wf 48) (wf 49)) ?_
  refine h_dup X dX10_init_351 (q := 352) rfl rfl ?_
  refine h_bipush X dX10_init_352 (q := 354) rfl li_b49 ?_
  refine h_bipush X dX10_init_354 (q := 356) rfl li_b97 ?_
  refine h_iastW X 7 (x10W_at cA a q1 q2 q3 q4 q5 q6 q7 (wf 49)) (i := (49 : Int32)) (j := 49) (by decide +kernel) (by decide +kernel) dX10_init_356 (q := 357) rfl (wf_s 49 (by decide +kernel)) (x10W_set cA a q1 q2 q3 q4 q5 q6 q7 (wf 49) (wf 50)) ?_
  refine h_dup X dX10_init_357 (q := 358) rfl rfl ?_
  refine h_bipush X dX10_init_358 (q := 360) rfl li_b50 ?_
  refine h_bipush X dX10_init_360 (q := 362) rfl li_b121 ?_
  refine h_iastW X 7 (x10W_at cA a q1 q2 q3 q4 q5 q6 q7 (wf 50)) (i := (50 : Int32)) (j := 50) (by decide +kernel) (by decide +kernel) dX10_init_362 (q := 363) rfl (wf_s 50 (by decide +kernel)) (x10W_set cA a q1 q2 q3 q4 q5 q6 q7 (wf 50) (wf 51)) ?_
  exact k
set_option maxRecDepth 100000 in
set_option maxHeartbeats 8000000 in
theorem st10_51 {D : va_G} {cA cL : ClassId} {A : Nat → Prop} {p : Program} {l : Launch} {e : Env} {R : Room} {st : State} {m : MethodId} {args : Array Value} {below : List Frame} {meth : Method} {c : Code} {Q : State → Prop} {a q1 q2 q3 q4 q5 q6 q7 ce sl : Nat} {lv : List (Nat × Value)} {rest : List Value} (X : CX D cA cL A p st m args meth c cX10_init 1 RX10) (k : CG D A p l e R st m args below meth c Q 1 (x10W cA a q1 q2 q3 q4 q5 q6 q7 (wf 76)) ce sl 513 lv (.ref q7 :: rest)) : CG D A p l e R st m args below meth c Q 1 (x10W cA a q1 q2 q3 q4 q5 q6 q7 (wf 51)) ce sl 363 lv (.ref q7 :: rest) := by
  refine h_dup X dX10_init_363 (q := 364) rfl rfl ?_
  refine h_bipush X dX10_init_364 (q := 366) rfl li_b51 ?_
  refine h_bipush X dX10_init_366 (q := 368) rfl li_b32 ?_
  refine h_iastW X 7 (x10W_at cA a q1 q2 q3 q4 q5 q6 q7 (wf 51)) (i := (51 : Int32)) (j := 51) (by decide +kernel) (by decide +kernel) dX10_init_368 (q := 369) rfl (wf_s 51 (by decide +kernel)) (x10W_set cA a q1 q2 q3 q4 q5 q6 q7 (wf 51) (wf 52)) ?_
  refine h_dup X dX10_init_369 (q := 370) rfl rfl ?_
  refine h_bipush X dX10_init_370 (q := 372) rfl li_b52 ?_
  refine h_bipush X dX10_init_372 (q := 374) rfl li_b101 ?_
  refine h_iastW X 7 (x10W_at cA a q1 q2 q3 q4 q5 q6 q7 (wf 52)) (i := (52 : Int32)) (j := 52) (by decide +kernel) (by decide +kernel) dX10_init_374 (q := 375) rfl (wf_s 52 (by decide +kernel)) (x10W_set cA a q1 q2 q3 q4 q5 q6 q7 (wf 52) (wf 53)) ?_
  refine h_dup X dX10_init_375 (q := 376) rfl rfl ?_
  refine h_bipush X dX10_init_376 (q := 378) rfl li_b53 ?_
  refine h_bipush X dX10_init_378 (q := 380) rfl li_b100 ?_
  refine h_iastW X 7 (x10W_at cA a q1 q2 q3 q4 q5 q6 q7 (wf 53)) (i := (53 : Int32)) (j := 53) (by decide +kernel) (by decide +kernel) dX10_init_380 (q := 381) rfl (wf_s 53 (by decide +kernel)) (x10W_set cA a q1 q2 q3 q4 q5 q6 q7 (wf 53) (wf 54)) ?_
  refine h_dup X dX10_init_381 (q := 382) rfl rfl ?_
  refine h_bipush X dX10_init_382 (q := 384) rfl li_b54 ?_
  refine h_bipush X dX10_init_384 (q := 386) rfl li_b103 ?_
  refine h_iastW X 7 (x10W_at cA a q1 q2 q3 q4 q5 q6 q7 (wf 54)) (i := (54 : Int32)) (j := 54) (by decide +kernel) (by decide +kernel) dX10_init_386 (q := 387) rfl (wf_s 54 (by decide +kernel)) (x10W_set cA a q1 q2 q3 q4 q5 q6 q7 (wf 54) (wf 55)) ?_
  refine h_dup X dX10_init_387 (q := 388) rfl rfl ?_
  refine h_bipush X dX10_init_388 (q := 390) rfl li_b55 ?_
  refine h_bipush X dX10_init_390 (q := 392) rfl li_b101 ?_
  refine h_iastW X 7 (x10W_at cA a q1 q2 q3 q4 q5 q6 q7 (wf 55)) (i := (55 : Int32)) (j := 55) (by decide +kernel) (by decide +kernel) dX10_init_392 (q := 393) rfl (wf_s 55 (by decide +kernel)) (x10W_set cA a q1 q2 q3 q4 q5 q6 q7 (wf 55) (wf 56)) ?_
  refine h_dup X dX10_init_393 (q := 394) rfl rfl ?_
  refine h_bipush X dX10_init_394 (q := 396) rfl li_b56 ?_
  refine h_bipush X dX10_init_396 (q := 398) rfl li_b32 ?_
  refine h_iastW X 7 (x10W_at cA a q1 q2 q3 q4 q5 q6 q7 (wf 56)) (i := (56 : Int32)) (j := 56) (by decide +kernel) (by decide +kernel) dX10_init_398 (q := 399) rfl (wf_s 56 (by decide +kernel)) (x10W_set cA a q1 q2 q3 q4 q5 q6 q7 (wf 56) (wf 57)) ?_
  refine h_dup X dX10_init_399 (q := 400) rfl rfl ?_
  refine h_bipush X dX10_init_400 (q := 402) rfl li_b57 ?_
  refine h_bipush X dX10_init_402 (q := 404) rfl li_b104 ?_
  refine h_iastW X 7 (x10W_at cA a q1 q2 q3 q4 q5 q6 q7 (wf 57)) (i := (57 : Int32)) (j := 57) (by decide +kernel) (by decide +kernel) dX10_init_404 (q := 405) rfl (wf_s 57 (by decide +kernel)) (x10W_set cA a q1 q2 q3 q4 q5 q6 q7 (wf 57) (wf 58)) ?_
  refine h_dup X dX10_init_405 (q := 406) rfl rfl ?_
  refine h_bipush X dX10_init_406 (q := 408) rfl li_b58 ?_
  refine h_bipush X dX10_init_408 (q := 410) rfl li_b101 ?_
  refine h_iastW X 7 (x10W_at cA a q1 q2 q3 q4 q5 q6 q7 (wf 58)) (i := (58 : Int32)) (j := 58) (by decide +kernel) (by decide +kernel) dX10_init_410 (q := 411) rfl (wf_s 58 (by decide +kernel)) (x10W_set cA a q1 q2 q3 q4 q5 q6 q7 (wf 58) (wf 59)) ?_
  refine h_dup X dX10_init_411 (q := 412) rfl rfl ?_
  refine h_bipush X dX10_init_412 (q := 414) rfl li_b59 ?_
  refine h_bipush X dX10_init_414 (q := 416) rfl li_b100 ?_
  refine h_iastW X 7 (x10W_at cA a q1 q2 q3 q4 q5 q6 q7 (wf 59)) (i := (59 : Int32)) (j := 59) (by decide +kernel) (by decide +kernel) dX10_init_416 (q := 417) rfl (wf_s 59 (by decide +kernel)) (x10W_set cA a q1 q2 q3 q4 q5 q6 q7 (wf 59) (wf 60)) ?_
  refine h_dup X dX10_init_417 (q := 418) rfl rfl ?_
  refine h_bipush X dX10_init_418 (q := 420) rfl li_b60 ?_
  refine h_bipush X dX10_init_420 (q := 422) rfl li_b103 ?_
  refine h_iastW X 7 (x10W_at cA a q1 q2 q3 q4 q5 q6 q7 (wf 60)) (i := (60 : Int32)) (j := 60) (by decide +kernel) (by decide +kernel) dX10_init_422 (q := 423) rfl (wf_s 60 (by decide +kernel)) (x10W_set cA a q1 q2 q3 q4 q5 q6 q7 (wf 60) (wf 61)) ?_
  refine h_dup X dX10_init_423 (q := 424) rfl rfl ?_
  refine h_bipush X dX10_init_424 (q := 426) rfl li_b61 ?_
  refine h_bipush X dX10_init_426 (q := 428) rfl li_b101 ?_
  refine h_iastW X 7 (x10W_at cA a q1 q2 q3 q4 q5 q6 q7 (wf 61)) (i := (61 : Int32)) (j := 61) (by decide +kernel) (by decide +kernel) dX10_init_428 (q := 429) rfl (wf_s 61 (by decide +kernel)) (x10W_set cA a q1 q2 q3 q4 q5 q6 q7 (wf 61) (wf 62)) ?_
  refine h_dup X dX10_init_429 (q := 430) rfl rfl ?_
  refine h_bipush X dX10_init_430 (q := 432) rfl li_b62 ?_
  refine h_bipush X dX10_init_432 (q := 434) rfl li_b115 ?_
  refine h_iastW X 7 (x10W_at cA a q1 q2 q3 q4 q5 q6 q7 (wf 62)) (i := (62 : Int32)) (j := 62) (by decide +kernel) (by decide +kernel) dX10_init_434 (q := 435) rfl (wf_s 62 (by decide +kernel)) (x10W_set cA a q1 q2 q3 q4 q5 q6 q7 (wf 62) (wf 63)) ?_
  refine h_dup X dX10_init_435 (q := 436) rfl rfl ?_
  refine h_bipush X dX10_init_436 (q := 438) rfl li_b63 ?_
  refine h_bipush X dX10_init_438 (q := 440) rfl li_b32 ?_
  refine h_iastW X 7 (x10W_at cA a q1 q2 q3 q4 q5 q6 q7 (wf 63)) (i := (63 : Int32)) (j := 63) (by decide +kernel) (by decide +kernel) dX10_init_440 (q := 441) rfl (wf_s 63 (by decide +kernel)) (x10W_set cA a q1 q2 q3 q4 q5 q6 q7 (wf 63) (wf 64)) ?_
  refine h_dup X dX10_init_441 (q := 442) rfl rfl ?_
  refine h_bipush X dX10_init_442 (q := 444) rfl li_b64 ?_
  refine h_bipush X dX10_init_444 (q := 446) rfl li_b115 ?_
  refine h_iastW X 7 (x10W_at cA a q1 q2 q3 q4 q5 q6 q7 (wf 64)) (i := (64 : Int32)) (j := 64) (by decide +kernel) (by decide +kernel) dX10_init_446 (q := 447) rfl (wf_s 64 (by decide +kernel)) (x10W_set cA a q1 q2 q3 q4 q5 q6 q7 (wf 64) (wf 65)) ?_
  refine h_dup X dX10_init_447 (q := 448) rfl rfl ?_
  refine h_bipush X dX10_init_448 (q := 450) rfl li_b65 ?_
  refine h_bipush X dX10_init_450 (q := 452) rfl li_b116 ?_
  refine h_iastW X 7 (x10W_at cA a q1 q2 q3 q4 q5 q6 q7 (wf 65)) (i := (65 : Int32)) (j := 65) (by decide +kernel) (by decide +kernel) dX10_init_452 (q := 453) rfl (wf_s 65 (by decide +kernel)) (x10W_set cA a q1 q2 q3 q4 q5 q6 q7 (wf 65) (wf 66)) ?_
  refine h_dup X dX10_init_453 (q := 454) rfl rfl ?_
  refine h_bipush X dX10_init_454 (q := 456) rfl li_b66 ?_
  refine h_bipush X dX10_init_456 (q := 458) rfl li_b111 ?_
  refine h_iastW X 7 (x10W_at cA a q1 q2 q3 q4 q5 q6 q7 (wf 66)) (i := (66 : Int32)) (j := 66) (by decide +kernel) (by decide +kernel) dX10_init_458 (q := 459) rfl (wf_s 66 (by decide +kernel)) (x10W_set cA a q1 q2 q3 q4 q5 q6 q7 (wf 66) (wf 67)) ?_
  refine h_dup X dX10_init_459 (q := 460) rfl rfl ?_
  refine h_bipush X dX10_init_460 (q := 462) rfl li_b67 ?_
  refine h_bipush X dX10_init_462 (q := 464) rfl li_b114 ?_
  refine h_iastW X 7 (x10W_at cA a q1 q2 q3 q4 q5 q6 q7 (wf 67)) (i := (67 : Int32)) (j := 67) (by decide +kernel) (by decide +kernel) dX10_init_464 (q := 465) rfl (wf_s 67 (by decide +kernel)) (x10W_set cA a q1 q2 q3 q4 q5 q6 q7 (wf 67) (wf 68)) ?_
  refine h_dup X dX10_init_465 (q := 466) rfl rfl ?_
  refine h_bipush X dX10_init_466 (q := 468) rfl li_b68 ?_
  refine h_bipush X dX10_init_468 (q := 470) rfl li_b109 ?_
  refine h_iastW X 7 (x10W_at cA a q1 q2 q3 q4 q5 q6 q7 (wf 68)) (i := (68 : Int32)) (j := 68) (by decide +kernel) (by decide +kernel) dX10_init_470 (q := 471) rfl (wf_s 68 (by decide +kernel)) (x10W_set cA a q1 q2 q3 q4 q5 q6 q7 (wf 68) (wf 69)) ?_
  refine h_dup X dX10_init_471 (q := 472) rfl rfl ?_
  refine h_bipush X dX10_init_472 (q := 474) rfl li_b69 ?_
  refine h_bipush X dX10_init_474 (q := 476) rfl li_b32 ?_
  refine h_iastW X 7 (x10W_at cA a q1 q2 q3 q4 q5 q6 q7 (wf 69)) (i := (69 : Int32)) (j := 69) (by decide +kernel) (by decide +kernel) dX10_init_476 (q := 477) rfl (wf_s 69 (by decide +kernel)) (x10W_set cA a q1 q2 q3 q4 q5 q6 q7 (wf 69) (wf 70)) ?_
  refine h_dup X dX10_init_477 (q := 478) rfl rfl ?_
  refine h_bipush X dX10_init_478 (q := 480) rfl li_b70 ?_
  refine h_bipush X dX10_init_480 (q := 482) rfl li_b108 ?_
  refine h_iastW X 7 (x10W_at cA a q1 q2 q3 q4 q5 q6 q7 (wf 70)) (i := (70 : Int32)) (j := 70) (by decide +kernel) (by decide +kernel) dX10_init_482 (q := 483) rfl (wf_s 70 (by decide +kernel)) (x10W_set cA a q1 q2 q3 q4 q5 q6 q7 (wf 70) (wf 71)) ?_
  refine h_dup X dX10_init_483 (q := 484) rfl rfl ?_
  refine h_bipush X dX10_init_484 (q := 486) rfl li_b71 ?_
  refine h_bipush X dX10_init_486 (q := 488) rfl li_b97 ?_
  refine h_iastW X 7 (x10W_at cA a q1 q2 q3 q4 q5 q6 q7 (wf 71)) (i := (71 : Int32)) (j := 71) (by decide +kernel) (by decide +kernel) dX10_init_488 (q := 489) rfl (wf_s 71 (by decide +kernel)) (x10W_set cA a q1 q2 q3 q4 q5 q6 q7 (wf 71) (wf 72)) ?_
  refine h_dup X dX10_init_489 (q := 490) rfl rfl ?_
  refine h_bipush X dX10_init_490 (q := 492) rfl li_b72 ?_
  refine h_bipush X dX10_init_492 (q := 494) rfl li_b115 ?_
  refine h_iastW X 7 (x10W_at cA a q1 q2 q3 q4 q5 q6 q7 (wf 72)) (i := (72 : Int32)) (j := 72) (by decide +kernel) (by decide +kernel) dX10_init_494 (q := 495) rfl (wf_s 72 (by decide +kernel)) (x10W_set cA a q1 q2 q3 q4 q5 q6 q7 (wf 72) (wf 73)) ?_
  refine h_dup X dX10_init_495 (q := 496) rfl rfl ?_
  refine h_bipush X dX10_init_496 (q := 498) rfl li_b73 ?_
  refine h_bipush X dX10_init_498 (q := 500) rfl li_b116 ?_
  refine h_iastW X 7 (x10W_at cA a q1 q2 q3 q4 q5 q6 q7 (wf 73)) (i := (73 : Int32)) (j := 73) (by decide +kernel) (by decide +kernel) dX10_init_500 (q := 501) rfl (wf_s 73 (by decide +kernel)) (x10W_set cA a q1 q2 q3 q4 q5 q6 q7 (wf 73) (wf 74)) ?_
  refine h_dup X dX10_init_501 (q := 502) rfl rfl ?_
  refine h_bipush X dX10_init_502 (q := 504) rfl li_b74 ?_
  refine h_bipush X dX10_init_504 (q := 506) rfl li_b115 ?_
  refine h_iastW X 7 (x10W_at cA a q1 q2 q3 q4 q5 q6 q7 (wf 74)) (i := (74 : Int32)) (j := 74) (by decide +kernel) (by decide +kernel) dX10_init_506 (q := 507) rfl (wf_s 74 (by decide +kernel)) (x10W_set cA a q1 q2 q3 q4 q5 q6 q7 (wf 74) (wf 75)) ?_
  refine h_dup X dX10_init_507 (q := 508) rfl rfl ?_
  refine h_bipush X dX10_init_508 (q := 510) rfl li_b75 ?_
  refine h_bipush X dX10_init_510 (q := 512) rfl li_b32 ?_
  refine h_iastW X 7 (x10W_at cA a q1 q2 q3 q4 q5 q6 q7 (wf 75)) (i := (75 : Int32)) (j := 75) (by decide +kernel) (by decide +kernel) dX10_init_512 (q := 513) rfl (wf_s 75 (by decide +kernel)) (x10W_set cA a q1 q2 q3 q4 q5 q6 q7 (wf 75) (wf 76)) ?_
  exact k
set_option maxRecDepth 100000 in
set_option maxHeartbeats 8000000 in
theorem st10_76 {D : va_G} {cA cL : ClassId} {A : Nat → Prop} {p : Program} {l : Launch} {e : Env} {R : Room} {st : State} {m : MethodId} {args : Array Value} {below : List Frame} {meth : Method} {c : Code} {Q : State → Prop} {a q1 q2 q3 q4 q5 q6 q7 ce sl : Nat} {lv : List (Nat × Value)} {rest : List Value} (X : CX D cA cL A p st m args meth c cX10_init 1 RX10) (k : CG D A p l e R st m args below meth c Q 1 (x10W cA a q1 q2 q3 q4 q5 q6 q7 (wf 101)) ce sl 663 lv (.ref q7 :: rest)) : CG D A p l e R st m args below meth c Q 1 (x10W cA a q1 q2 q3 q4 q5 q6 q7 (wf 76)) ce sl 513 lv (.ref q7 :: rest) := by
  refine h_dup X dX10_init_513 (q := 514) rfl rfl ?_
  refine h_bipush X dX10_init_514 (q := 516) rfl li_b76 ?_
  refine h_bipush X dX10_init_516 (q := 518) rfl li_b115 ?_
  refine h_iastW X 7 (x10W_at cA a q1 q2 q3 q4 q5 q6 q7 (wf 76)) (i := (76 : Int32)) (j := 76) (by decide +kernel) (by decide +kernel) dX10_init_518 (q := 519) rfl (wf_s 76 (by decide +kernel)) (x10W_set cA a q1 q2 q3 q4 q5 q6 q7 (wf 76) (wf 77)) ?_
  refine h_dup X dX10_init_519 (q := 520) rfl rfl ?_
  refine h_bipush X dX10_init_520 (q := 522) rfl li_b77 ?_
  refine h_bipush X dX10_init_522 (q := 524) rfl li_b112 ?_
  refine h_iastW X 7 (x10W_at cA a q1 q2 q3 q4 q5 q6 q7 (wf 77)) (i := (77 : Int32)) (j := 77) (by decide +kernel) (by decide +kernel) dX10_init_524 (q := 525) rfl (wf_s 77 (by decide +kernel)) (x10W_set cA a q1 q2 q3 q4 q5 q6 q7 (wf 77) (wf 78)) ?_
  refine h_dup X dX10_init_525 (q := 526) rfl rfl ?_
  refine h_bipush X dX10_init_526 (q := 528) rfl li_b78 ?_
  refine h_bipush X dX10_init_528 (q := 530) rfl li_b114 ?_
  refine h_iastW X 7 (x10W_at cA a q1 q2 q3 q4 q5 q6 q7 (wf 78)) (i := (78 : Int32)) (j := 78) (by decide +kernel) (by decide +kernel) dX10_init_530 (q := 531) rfl (wf_s 78 (by decide +kernel)) (x10W_set cA a q1 q2 q3 q4 q5 q6 q7 (wf 78) (wf 79)) ?_
  refine h_dup X dX10_init_531 (q := 532) rfl rfl ?_
  refine h_bipush X dX10_init_532 (q := 534) rfl li_b79 ?_
  refine h_bipush X dX10_init_534 (q := 536) rfl li_b101 ?_
  refine h_iastW X 7 (x10W_at cA a q1 q2 q3 q4 q5 q6 q7 (wf 79)) (i := (79 : Int32)) (j := 79) (by decide +kernel) (by decide +kernel) dX10_init_536 (q := 537) rfl (wf_s 79 (by decide +kernel)) (x10W_set cA a q1 q2 q3 q4 q5 q6 q7 (wf 79) (wf 80)) ?_
  refine h_dup X dX10_init_537 (q := 538) rfl rfl ?_
  refine h_bipush X dX10_init_538 (q := 540) rfl li_b80 ?_
  refine h_bipush X dX10_init_540 (q := 542) rfl li_b97 ?_
  refine h_iastW X 7 (x10W_at cA a q1 q2 q3 q4 q5 q6 q7 (wf 80)) (i := (80 : Int32)) (j := 80) (by decide +kernel) (by decide +kernel) dX10_init_542 (q := 543) rfl (wf_s 80 (by decide +kernel)) (x10W_set cA a q1 q2 q3 q4 q5 q6 q7 (wf 80) (wf 81)) ?_
  refine h_dup X dX10_init_543 (q := 544) rfl rfl ?_
  refine h_bipush X dX10_init_544 (q := 546) rfl li_b81 ?_
  refine h_bipush X dX10_init_546 (q := 548) rfl li_b100 ?_
  refine h_iastW X 7 (x10W_at cA a q1 q2 q3 q4 q5 q6 q7 (wf 81)) (i := (81 : Int32)) (j := 81) (by decide +kernel) (by decide +kernel) dX10_init_548 (q := 549) rfl (wf_s 81 (by decide +kernel)) (x10W_set cA a q1 q2 q3 q4 q5 q6 q7 (wf 81) (wf 82)) ?_
  refine h_dup X dX10_init_549 (q := 550) rfl rfl ?_
  refine h_bipush X dX10_init_550 (q := 552) rfl li_b82 ?_
  refine h_bipush X dX10_init_552 (q := 554) rfl li_b32 ?_
  refine h_iastW X 7 (x10W_at cA a q1 q2 q3 q4 q5 q6 q7 (wf 82)) (i := (82 : Int32)) (j := 82) (by decide +kernel) (by decide +kernel) dX10_init_554 (q := 555) rfl (wf_s 82 (by decide +kernel)) (x10W_set cA a q1 q2 q3 q4 q5 q6 q7 (wf 82) (wf 83)) ?_
  refine h_dup X dX10_init_555 (q := 556) rfl rfl ?_
  refine h_bipush X dX10_init_556 (q := 558) rfl li_b83 ?_
  refine h_bipush X dX10_init_558 (q := 560) rfl li_b99 ?_
  refine h_iastW X 7 (x10W_at cA a q1 q2 q3 q4 q5 q6 q7 (wf 83)) (i := (83 : Int32)) (j := 83) (by decide +kernel) (by decide +kernel) dX10_init_560 (q := 561) rfl (wf_s 83 (by decide +kernel)) (x10W_set cA a q1 q2 q3 q4 q5 q6 q7 (wf 83) (wf 84)) ?_
  refine h_dup X dX10_init_561 (q := 562) rfl rfl ?_
  refine h_bipush X dX10_init_562 (q := 564) rfl li_b84 ?_
  refine h_bipush X dX10_init_564 (q := 566) rfl li_b114 ?_
  refine h_iastW X 7 (x10W_at cA a q1 q2 q3 q4 q5 q6 q7 (wf 84)) (i := (84 : Int32)) (j := 84) (by decide +kernel) (by decide +kernel) dX10_init_566 (q := 567) rfl (wf_s 84 (by decide +kernel)) (x10W_set cA a q1 q2 q3 q4 q5 q6 q7 (wf 84) (wf 85)) ?_
  refine h_dup X dX10_init_567 (q := 568) rfl rfl ?_
  refine h_bipush X dX10_init_568 (q := 570) rfl li_b85 ?_
  refine h_bipush X dX10_init_570 (q := 572) rfl li_b111 ?_
  refine h_iastW X 7 (x10W_at cA a q1 q2 q3 q4 q5 q6 q7 (wf 85)) (i := (85 : Int32)) (j := 85) (by decide +kernel) (by decide +kernel) dX10_init_572 (q := 573) rfl (wf_s 85 (by decide +kernel)) (x10W_set cA a q1 q2 q3 q4 q5 q6 q7 (wf 85) (wf 86)) ?_
  refine h_dup X dX10_init_573 (q := 574) rfl rfl ?_
  refine h_bipush X dX10_init_574 (q := 576) rfl li_b86 ?_
  refine h_bipush X dX10_init_576 (q := 578) rfl li_b115 ?_
  refine h_iastW X 7 (x10W_at cA a q1 q2 q3 q4 q5 q6 q7 (wf 86)) (i := (86 : Int32)) (j := 86) (by decide +kernel) (by decide +kernel) dX10_init_578 (q := 579) rfl (wf_s 86 (by decide +kernel)) (x10W_set cA a q1 q2 q3 q4 q5 q6 q7 (wf 86) (wf 87)) ?_
  refine h_dup X dX10_init_579 (q := 580) rfl rfl ?_
  refine h_bipush X dX10_init_580 (q := 582) rfl li_b87 ?_
  refine h_bipush X dX10_init_582 (q := 584) rfl li_b115 ?_
  refine h_iastW X 7 (x10W_at cA a q1 q2 q3 q4 q5 q6 q7 (wf 87)) (i := (87 : Int32)) (j := 87) (by decide +kernel) (by decide +kernel) dX10_init_584 (q := 585) rfl (wf_s 87 (by decide +kernel)) (x10W_set cA a q1 q2 q3 q4 q5 q6 q7 (wf 87) (wf 88)) ?_
  refine h_dup X dX10_init_585 (q := 586) rfl rfl ?_
  refine h_bipush X dX10_init_586 (q := 588) rfl li_b88 ?_
  refine h_bipush X dX10_init_588 (q := 590) rfl li_b32 ?_
  refine h_iastW X 7 (x10W_at cA a q1 q2 q3 q4 q5 q6 q7 (wf 88)) (i := (88 : Int32)) (j := 88) (by decide +kernel) (by decide +kernel) dX10_init_590 (q := 591) rfl (wf_s 88 (by decide +kernel)) (x10W_set cA a q1 q2 q3 q4 q5 q6 q7 (wf 88) (wf 89)) ?_
  refine h_dup X dX10_init_591 (q := 592) rfl rfl ?_
  refine h_bipush X dX10_init_592 (q := 594) rfl li_b89 ?_
  refine h_bipush X dX10_init_594 (q := 596) rfl li_b119 ?_
  refine h_iastW X 7 (x10W_at cA a q1 q2 q3 q4 q5 q6 q7 (wf 89)) (i := (89 : Int32)) (j := 89) (by decide +kernel) (by decide +kernel) dX10_init_596 (q := 597) rfl (wf_s 89 (by decide +kernel)) (x10W_set cA a q1 q2 q3 q4 q5 q6 q7 (wf 89) (wf 90)) ?_
  refine h_dup X dX10_init_597 (q := 598) rfl rfl ?_
  refine h_bipush X dX10_init_598 (q := 600) rfl li_b90 ?_
  refine h_bipush X dX10_init_600 (q := 602) rfl li_b105 ?_
  refine h_iastW X 7 (x10W_at cA a q1 q2 q3 q4 q5 q6 q7 (wf 90)) (i := (90 : Int32)) (j := 90) (by decide +kernel) (by decide +kernel) dX10_init_602 (q := 603) rfl (wf_s 90 (by decide +kernel)) (x10W_set cA a q1 q2 q3 q4 q5 q6 q7 (wf 90) (wf 91)) ?_
  refine h_dup X dX10_init_603 (q := 604) rfl rfl ?_
  refine h_bipush X dX10_init_604 (q := 606) rfl li_b91 ?_
  refine h_bipush X dX10_init_606 (q := 608) rfl li_b116 ?_
  refine h_iastW X 7 (x10W_at cA a q1 q2 q3 q4 q5 q6 q7 (wf 91)) (i := (91 : Int32)) (j := 91) (by decide +kernel) (by decide +kernel) dX10_init_608 (q := 609) rfl (wf_s 91 (by decide +kernel)) (x10W_set cA a q1 q2 q3 q4 q5 q6 q7 (wf 91) (wf 92)) ?_
  refine h_dup X dX10_init_609 (q := 610) rfl rfl ?_
  refine h_bipush X dX10_init_610 (q := 612) rfl li_b92 ?_
  refine h_bipush X dX10_init_612 (q := 614) rfl li_b104 ?_
  refine h_iastW X 7 (x10W_at cA a q1 q2 q3 q4 q5 q6 q7 (wf 92)) (i := (92 : Int32)) (j := 92) (by decide +kernel) (by decide +kernel) dX10_init_614 (q := 615) rfl (wf_s 92 (by decide +kernel)) (x10W_set cA a q1 q2 q3 q4 q5 q6 q7 (wf 92) (wf 93)) ?_
  refine h_dup X dX10_init_615 (q := 616) rfl rfl ?_
  refine h_bipush X dX10_init_616 (q := 618) rfl li_b93 ?_
  refine h_bipush X dX10_init_618 (q := 620) rfl li_b32 ?_
  refine h_iastW X 7 (x10W_at cA a q1 q2 q3 q4 q5 q6 q7 (wf 93)) (i := (93 : Int32)) (j := 93) (by decide +kernel) (by decide +kernel) dX10_init_620 (q := 621) rfl (wf_s 93 (by decide +kernel)) (x10W_set cA a q1 q2 q3 q4 q5 q6 q7 (wf 93) (wf 94)) ?_
  refine h_dup X dX10_init_621 (q := 622) rfl rfl ?_
  refine h_bipush X dX10_init_622 (q := 624) rfl li_b94 ?_
  refine h_bipush X dX10_init_624 (q := 626) rfl li_b116 ?_
  refine h_iastW X 7 (x10W_at cA a q1 q2 q3 q4 q5 q6 q7 (wf 94)) (i := (94 : Int32)) (j := 94) (by decide +kernel) (by decide +kernel) dX10_init_626 (q := 627) rfl (wf_s 94 (by decide +kernel)) (x10W_set cA a q1 q2 q3 q4 q5 q6 q7 (wf 94) (wf 95)) ?_
  refine h_dup X dX10_init_627 (q := 628) rfl rfl ?_
  refine h_bipush X dX10_init_628 (q := 630) rfl li_b95 ?_
  refine h_bipush X dX10_init_630 (q := 632) rfl li_b111 ?_
  refine h_iastW X 7 (x10W_at cA a q1 q2 q3 q4 q5 q6 q7 (wf 95)) (i := (95 : Int32)) (j := 95) (by decide +kernel) (by decide +kernel) dX10_init_632 (q := 633) rfl (wf_s 95 (by decide +kernel)) (x10W_set cA a q1 q2 q3 q4 q5 q6 q7 (wf 95) (wf 96)) ?_
  refine h_dup X dX10_init_633 (q := 634) rfl rfl ?_
  refine h_bipush X dX10_init_634 (q := 636) rfl li_b96 ?_
  refine h_bipush X dX10_init_636 (q := 638) rfl li_b32 ?_
  refine h_iastW X 7 (x10W_at cA a q1 q2 q3 q4 q5 q6 q7 (wf 96)) (i := (96 : Int32)) (j := 96) (by decide +kernel) (by decide +kernel) dX10_init_638 (q := 639) rfl (wf_s 96 (by decide +kernel)) (x10W_set cA a q1 q2 q3 q4 q5 q6 q7 (wf 96) (wf 97)) ?_
  refine h_dup X dX10_init_639 (q := 640) rfl rfl ?_
  refine h_bipush X dX10_init_640 (q := 642) rfl li_b97 ?_
  refine h_bipush X dX10_init_642 (q := 644) rfl li_b119 ?_
  refine h_iastW X 7 (x10W_at cA a q1 q2 q3 q4 q5 q6 q7 (wf 97)) (i := (97 : Int32)) (j := 97) (by decide +kernel) (by decide +kernel) dX10_init_644 (q := 645) rfl (wf_s 97 (by decide +kernel)) (x10W_set cA a q1 q2 q3 q4 q5 q6 q7 (wf 97) (wf 98)) ?_
  refine h_dup X dX10_init_645 (q := 646) rfl rfl ?_
  refine h_bipush X dX10_init_646 (q := 648) rfl li_b98 ?_
  refine h_bipush X dX10_init_648 (q := 650) rfl li_b97 ?_
  refine h_iastW X 7 (x10W_at cA a q1 q2 q3 q4 q5 q6 q7 (wf 98)) (i := (98 : Int32)) (j := 98) (by decide +kernel) (by decide +kernel) dX10_init_650 (q := 651) rfl (wf_s 98 (by decide +kernel)) (x10W_set cA a q1 q2 q3 q4 q5 q6 q7 (wf 98) (wf 99)) ?_
  refine h_dup X dX10_init_651 (q := 652) rfl rfl ?_
  refine h_bipush X dX10_init_652 (q := 654) rfl li_b99 ?_
  refine h_bipush X dX10_init_654 (q := 656) rfl li_b110 ?_
  refine h_iastW X 7 (x10W_at cA a q1 q2 q3 q4 q5 q6 q7 (wf 99)) (i := (99 : Int32)) (j := 99) (by decide +kernel) (by decide +kernel) dX10_init_656 (q := 657) rfl (wf_s 99 (by decide +kernel)) (x10W_set cA a q1 q2 q3 q4 q5 q6 q7 (wf 99) (wf 100)) ?_
  refine h_dup X dX10_init_657 (q := 658) rfl rfl ?_
  refine h_bipush X dX10_init_658 (q := 660) rfl li_b100 ?_
  refine h_bipush X dX10_init_660 (q := 662) rfl li_b116 ?_
  refine h_iastW X 7 (x10W_at cA a q1 q2 q3 q4 q5 q6 q7 (wf 100)) (i := (100 : Int32)) (j := 100) (by decide +kernel) (by decide +kernel) dX10_init_662 (q := 663) rfl (wf_s 100 (by decide +kernel)) (x10W_set cA a q1 q2 q3 q4 q5 q6 q7 (wf 100) (wf 101)) ?_
  exact k
set_option maxRecDepth 100000 in
set_option maxHeartbeats 8000000 in
theorem st10_101 {D : va_G} {cA cL : ClassId} {A : Nat → Prop} {p : Program} {l : Launch} {e : Env} {R : Room} {st : State} {m : MethodId} {args : Array Value} {below : List Frame} {meth : Method} {c : Code} {Q : State → Prop} {a q1 q2 q3 q4 q5 q6 q7 ce sl : Nat} {lv : List (Nat × Value)} {rest : List Value} (X : CX D cA cL A p st m args meth c cX10_init 1 RX10) (k : CG D A p l e R st m args below meth c Q 1 (x10W cA a q1 q2 q3 q4 q5 q6 q7 (wf 126)) ce sl 813 lv (.ref q7 :: rest)) : CG D A p l e R st m args below meth c Q 1 (x10W cA a q1 q2 q3 q4 q5 q6 q7 (wf 101)) ce sl 663 lv (.ref q7 :: rest) := by
  refine h_dup X dX10_init_663 (q := 664) rfl rfl ?_
  refine h_bipush X dX10_init_664 (q := 666) rfl li_b101 ?_
  refine h_bipush X dX10_init_666 (q := 668) rfl li_b32 ?_
  refine h_iastW X 7 (x10W_at cA a q1 q2 q3 q4 q5 q6 q7 (wf 101)) (i := (101 : Int32)) (j := 101) (by decide +kernel) (by decide +kernel) dX10_init_668 (q := 669) rfl (wf_s 101 (by decide +kernel)) (x10W_set cA a q1 q2 q3 q4 q5 q6 q7 (wf 101) (wf 102)) ?_
  refine h_dup X dX10_init_669 (q := 670) rfl rfl ?_
  refine h_bipush X dX10_init_670 (q := 672) rfl li_b102 ?_
  refine h_bipush X dX10_init_672 (q := 674) rfl li_b99 ?_
  refine h_iastW X 7 (x10W_at cA a q1 q2 q3 q4 q5 q6 q7 (wf 102)) (i := (102 : Int32)) (j := 102) (by decide +kernel) (by decide +kernel) dX10_init_674 (q := 675) rfl (wf_s 102 (by decide +kernel)) (x10W_set cA a q1 q2 q3 q4 q5 q6 q7 (wf 102) (wf 103)) ?_
  refine h_dup X dX10_init_675 (q := 676) rfl rfl ?_
  refine h_bipush X dX10_init_676 (q := 678) rfl li_b103 ?_
  refine h_bipush X dX10_init_678 (q := 680) rfl li_b97 ?_
  refine h_iastW X 7 (x10W_at cA a q1 q2 q3 q4 q5 q6 q7 (wf 103)) (i := (103 : Int32)) (j := 103) (by decide +kernel) (by decide +kernel) dX10_init_680 (q := 681) rfl (wf_s 103 (by decide +kernel)) (x10W_set cA a q1 q2 q3 q4 q5 q6 q7 (wf 103) (wf 104)) ?_
  refine h_dup X dX10_init_681 (q := 682) rfl rfl ?_
  refine h_bipush X dX10_init_682 (q := 684) rfl li_b104 ?_
  refine h_bipush X dX10_init_684 (q := 686) rfl li_b108 ?_
  refine h_iastW X 7 (x10W_at cA a q1 q2 q3 q4 q5 q6 q7 (wf 104)) (i := (104 : Int32)) (j := 104) (by decide +kernel) (by decide +kernel) dX10_init_686 (q := 687) rfl (wf_s 104 (by decide +kernel)) (x10W_set cA a q1 q2 q3 q4 q5 q6 q7 (wf 104) (wf 105)) ?_
  refine h_dup X dX10_init_687 (q := 688) rfl rfl ?_
  refine h_bipush X dX10_init_688 (q := 690) rfl li_b105 ?_
  refine h_bipush X dX10_init_690 (q := 692) rfl li_b109 ?_
  refine h_iastW X 7 (x10W_at cA a q1 q2 q3 q4 q5 q6 q7 (wf 105)) (i := (105 : Int32)) (j := 105) (by decide +kernel) (by decide +kernel) dX10_init_692 (q := 693) rfl (wf_s 105 (by decide +kernel)) (x10W_set cA a q1 q2 q3 q4 q5 q6 q7 (wf 105) (wf 106)) ?_
  refine h_dup X dX10_init_693 (q := 694) rfl rfl ?_
  refine h_bipush X dX10_init_694 (q := 696) rfl li_b106 ?_
  refine h_bipush X dX10_init_696 (q := 698) rfl li_b32 ?_
  refine h_iastW X 7 (x10W_at cA a q1 q2 q3 q4 q5 q6 q7 (wf 106)) (i := (106 : Int32)) (j := 106) (by decide +kernel) (by decide +kernel) dX10_init_698 (q := 699) rfl (wf_s 106 (by decide +kernel)) (x10W_set cA a q1 q2 q3 q4 q5 q6 q7 (wf 106) (wf 107)) ?_
  refine h_dup X dX10_init_699 (q := 700) rfl rfl ?_
  refine h_bipush X dX10_init_700 (q := 702) rfl li_b107 ?_
  refine h_bipush X dX10_init_702 (q := 704) rfl li_b97 ?_
  refine h_iastW X 7 (x10W_at cA a q1 q2 q3 q4 q5 q6 q7 (wf 107)) (i := (107 : Int32)) (j := 107) (by decide +kernel) (by decide +kernel) dX10_init_704 (q := 705) rfl (wf_s 107 (by decide +kernel)) (x10W_set cA a q1 q2 q3 q4 q5 q6 q7 (wf 107) (wf 108)) ?_
  refine h_dup X dX10_init_705 (q := 706) rfl rfl ?_
  refine h_bipush X dX10_init_706 (q := 708) rfl li_b108 ?_
  refine h_bipush X dX10_init_708 (q := 710) rfl li_b116 ?_
  refine h_iastW X 7 (x10W_at cA a q1 q2 q3 q4 q5 q6 q7 (wf 108)) (i := (108 : Int32)) (j := 108) (by decide +kernel) (by decide +kernel) dX10_init_710 (q := 711) rfl (wf_s 108 (by decide +kernel)) (x10W_set cA a q1 q2 q3 q4 q5 q6 q7 (wf 108) (wf 109)) ?_
  refine h_dup X dX10_init_711 (q := 712) rfl rfl ?_
  refine h_bipush X dX10_init_712 (q := 714) rfl li_b109 ?_
  refine h_bipush X dX10_init_714 (q := 716) rfl li_b32 ?_
  refine h_iastW X 7 (x10W_at cA a q1 q2 q3 q4 q5 q6 q7 (wf 109)) (i := (109 : Int32)) (j := 109) (by decide +kernel) (by decide +kernel) dX10_init_716 (q := 717) rfl (wf_s 109 (by decide +kernel)) (x10W_set cA a q1 q2 q3 q4 q5 q6 q7 (wf 109) (wf 110)) ?_
  refine h_dup X dX10_init_717 (q := 718) rfl rfl ?_
  refine h_bipush X dX10_init_718 (q := 720) rfl li_b110 ?_
  refine h_bipush X dX10_init_720 (q := 722) rfl li_b111 ?_
  refine h_iastW X 7 (x10W_at cA a q1 q2 q3 q4 q5 q6 q7 (wf 110)) (i := (110 : Int32)) (j := 110) (by decide +kernel) (by decide +kernel) dX10_init_722 (q := 723) rfl (wf_s 110 (by decide +kernel)) (x10W_set cA a q1 q2 q3 q4 q5 q6 q7 (wf 110) (wf 111)) ?_
  refine h_dup X dX10_init_723 (q := 724) rfl rfl ?_
  refine h_bipush X dX10_init_724 (q := 726) rfl li_b111 ?_
  refine h_bipush X dX10_init_726 (q := 728) rfl li_b110 ?_
  refine h_iastW X 7 (x10W_at cA a q1 q2 q3 q4 q5 q6 q7 (wf 111)) (i := (111 : Int32)) (j := 111) (by decide +kernel) (by decide +kernel) dX10_init_728 (q := 729) rfl (wf_s 111 (by decide +kernel)) (x10W_set cA a q1 q2 q3 q4 q5 q6 q7 (wf 111) (wf 112)) ?_
  refine h_dup X dX10_init_729 (q := 730) rfl rfl ?_
  refine h_bipush X dX10_init_730 (q := 732) rfl li_b112 ?_
  refine h_bipush X dX10_init_732 (q := 734) rfl li_b32 ?_
  refine h_iastW X 7 (x10W_at cA a q1 q2 q3 q4 q5 q6 q7 (wf 112)) (i := (112 : Int32)) (j := 112) (by decide +kernel) (by decide +kernel) dX10_init_734 (q := 735) rfl (wf_s 112 (by decide +kernel)) (x10W_set cA a q1 q2 q3 q4 q5 q6 q7 (wf 112) (wf 113)) ?_
  refine h_dup X dX10_init_735 (q := 736) rfl rfl ?_
  refine h_bipush X dX10_init_736 (q := 738) rfl li_b113 ?_
  refine h_bipush X dX10_init_738 (q := 740) rfl li_b119 ?_
  refine h_iastW X 7 (x10W_at cA a q1 q2 q3 q4 q5 q6 q7 (wf 113)) (i := (113 : Int32)) (j := 113) (by decide +kernel) (by decide +kernel) dX10_init_740 (q := 741) rfl (wf_s 113 (by decide +kernel)) (x10W_set cA a q1 q2 q3 q4 q5 q6 q7 (wf 113) (wf 114)) ?_
  refine h_dup X dX10_init_741 (q := 742) rfl rfl ?_
  refine h_bipush X dX10_init_742 (q := 744) rfl li_b114 ?_
  refine h_bipush X dX10_init_744 (q := 746) rfl li_b111 ?_
  refine h_iastW X 7 (x10W_at cA a q1 q2 q3 q4 q5 q6 q7 (wf 114)) (i := (114 : Int32)) (j := 114) (by decide +kernel) (by decide +kernel) dX10_init_746 (q := 747) rfl (wf_s 114 (by decide +kernel)) (x10W_set cA a q1 q2 q3 q4 q5 q6 q7 (wf 114) (wf 115)) ?_
  refine h_dup X dX10_init_747 (q := 748) rfl rfl ?_
  refine h_bipush X dX10_init_748 (q := 750) rfl li_b115 ?_
  refine h_bipush X dX10_init_750 (q := 752) rfl li_b114 ?_
  refine h_iastW X 7 (x10W_at cA a q1 q2 q3 q4 q5 q6 q7 (wf 115)) (i := (115 : Int32)) (j := 115) (by decide +kernel) (by decide +kernel) dX10_init_752 (q := 753) rfl (wf_s 115 (by decide +kernel)) (x10W_set cA a q1 q2 q3 q4 q5 q6 q7 (wf 115) (wf 116)) ?_
  refine h_dup X dX10_init_753 (q := 754) rfl rfl ?_
  refine h_bipush X dX10_init_754 (q := 756) rfl li_b116 ?_
  refine h_bipush X dX10_init_756 (q := 758) rfl li_b116 ?_
  refine h_iastW X 7 (x10W_at cA a q1 q2 q3 q4 q5 q6 q7 (wf 116)) (i := (116 : Int32)) (j := 116) (by decide +kernel) (by decide +kernel) dX10_init_758 (q := 759) rfl (wf_s 116 (by decide +kernel)) (x10W_set cA a q1 q2 q3 q4 q5 q6 q7 (wf 116) (wf 117)) ?_
  refine h_dup X dX10_init_759 (q := 760) rfl rfl ?_
  refine h_bipush X dX10_init_760 (q := 762) rfl li_b117 ?_
  refine h_bipush X dX10_init_762 (q := 764) rfl li_b104 ?_
  refine h_iastW X 7 (x10W_at cA a q1 q2 q3 q4 q5 q6 q7 (wf 117)) (i := (117 : Int32)) (j := 117) (by decide +kernel) (by decide +kernel) dX10_init_764 (q := 765) rfl (wf_s 117 (by decide +kernel)) (x10W_set cA a q1 q2 q3 q4 q5 q6 q7 (wf 117) (wf 118)) ?_
  refine h_dup X dX10_init_765 (q := 766) rfl rfl ?_
  refine h_bipush X dX10_init_766 (q := 768) rfl li_b118 ?_
  refine h_bipush X dX10_init_768 (q := 770) rfl li_b32 ?_
  refine h_iastW X 7 (x10W_at cA a q1 q2 q3 q4 q5 q6 q7 (wf 118)) (i := (118 : Int32)) (j := 118) (by decide +kernel) (by decide +kernel) dX10_init_770 (q := 771) rfl (wf_s 118 (by decide +kernel)) (x10W_set cA a q1 q2 q3 q4 q5 q6 q7 (wf 118) (wf 119)) ?_
  refine h_dup X dX10_init_771 (q := 772) rfl rfl ?_
  refine h_bipush X dX10_init_772 (q := 774) rfl li_b119 ?_
  refine h_bipush X dX10_init_774 (q := 776) rfl li_b115 ?_
  refine h_iastW X 7 (x10W_at cA a q1 q2 q3 q4 q5 q6 q7 (wf 119)) (i := (119 : Int32)) (j := 119) (by decide +kernel) (by decide +kernel) dX10_init_776 (q := 777) rfl (wf_s 119 (by decide +kernel)) (x10W_set cA a q1 q2 q3 q4 q5 q6 q7 (wf 119) (wf 120)) ?_
  refine h_dup X dX10_init_777 (q := 778) rfl rfl ?_
  refine h_bipush X dX10_init_778 (q := 780) rfl li_b120 ?_
  refine h_bipush X dX10_init_780 (q := 782) rfl li_b111 ?_
  refine h_iastW X 7 (x10W_at cA a q1 q2 q3 q4 q5 q6 q7 (wf 120)) (i := (120 : Int32)) (j := 120) (by decide +kernel) (by decide +kernel) dX10_init_782 (q := 783) rfl (wf_s 120 (by decide +kernel)) (x10W_set cA a q1 q2 q3 q4 q5 q6 q7 (wf 120) (wf 121)) ?_
  refine h_dup X dX10_init_783 (q := 784) rfl rfl ?_
  refine h_bipush X dX10_init_784 (q := 786) rfl li_b121 ?_
  refine h_bipush X dX10_init_786 (q := 788) rfl li_b119 ?_
  refine h_iastW X 7 (x10W_at cA a q1 q2 q3 q4 q5 q6 q7 (wf 121)) (i := (121 : Int32)) (j := 121) (by decide +kernel) (by decide +kernel) dX10_init_788 (q := 789) rfl (wf_s 121 (by decide +kernel)) (x10W_set cA a q1 q2 q3 q4 q5 q6 q7 (wf 121) (wf 122)) ?_
  refine h_dup X dX10_init_789 (q := 790) rfl rfl ?_
  refine h_bipush X dX10_init_790 (q := 792) rfl li_b122 ?_
  refine h_bipush X dX10_init_792 (q := 794) rfl li_b32 ?_
  refine h_iastW X 7 (x10W_at cA a q1 q2 q3 q4 q5 q6 q7 (wf 122)) (i := (122 : Int32)) (j := 122) (by decide +kernel) (by decide +kernel) dX10_init_794 (q := 795) rfl (wf_s 122 (by decide +kernel)) (x10W_set cA a q1 q2 q3 q4 q5 q6 q7 (wf 122) (wf 123)) ?_
  refine h_dup X dX10_init_795 (q := 796) rfl rfl ?_
  refine h_bipush X dX10_init_796 (q := 798) rfl li_b123 ?_
  refine h_bipush X dX10_init_798 (q := 800) rfl li_b119 ?_
  refine h_iastW X 7 (x10W_at cA a q1 q2 q3 q4 q5 q6 q7 (wf 123)) (i := (123 : Int32)) (j := 123) (by decide +kernel) (by decide +kernel) dX10_init_800 (q := 801) rfl (wf_s 123 (by decide +kernel)) (x10W_set cA a q1 q2 q3 q4 q5 q6 q7 (wf 123) (wf 124)) ?_
  refine h_dup X dX10_init_801 (q := 802) rfl rfl ?_
  refine h_bipush X dX10_init_802 (q := 804) rfl li_b124 ?_
  refine h_bipush X dX10_init_804 (q := 806) rfl li_b101 ?_
  refine h_iastW X 7 (x10W_at cA a q1 q2 q3 q4 q5 q6 q7 (wf 124)) (i := (124 : Int32)) (j := 124) (by decide +kernel) (by decide +kernel) dX10_init_806 (q := 807) rfl (wf_s 124 (by decide +kernel)) (x10W_set cA a q1 q2 q3 q4 q5 q6 q7 (wf 124) (wf 125)) ?_
  refine h_dup X dX10_init_807 (q := 808) rfl rfl ?_
  refine h_bipush X dX10_init_808 (q := 810) rfl li_b125 ?_
  refine h_bipush X dX10_init_810 (q := 812) rfl li_b101 ?_
  refine h_iastW X 7 (x10W_at cA a q1 q2 q3 q4 q5 q6 q7 (wf 125)) (i := (125 : Int32)) (j := 125) (by decide +kernel) (by decide +kernel) dX10_init_812 (q := 813) rfl (wf_s 125 (by decide +kernel)) (x10W_set cA a q1 q2 q3 q4 q5 q6 q7 (wf 125) (wf 126)) ?_
  exact k
set_option maxRecDepth 100000 in
set_option maxHeartbeats 8000000 in
theorem st10_126 {D : va_G} {cA cL : ClassId} {A : Nat → Prop} {p : Program} {l : Launch} {e : Env} {R : Room} {st : State} {m : MethodId} {args : Array Value} {below : List Frame} {meth : Method} {c : Code} {Q : State → Prop} {a q1 q2 q3 q4 q5 q6 q7 ce sl : Nat} {lv : List (Nat × Value)} {rest : List Value} (X : CX D cA cL A p st m args meth c cX10_init 1 RX10) (k : CG D A p l e R st m args below meth c Q 1 (x10W cA a q1 q2 q3 q4 q5 q6 q7 (wf 150)) ce sl 979 lv (.ref q7 :: rest)) : CG D A p l e R st m args below meth c Q 1 (x10W cA a q1 q2 q3 q4 q5 q6 q7 (wf 126)) ce sl 813 lv (.ref q7 :: rest) := by
  refine h_dup X dX10_init_813 (q := 814) rfl rfl ?_
  refine h_bipush X dX10_init_814 (q := 816) rfl li_b126 ?_
  refine h_bipush X dX10_init_816 (q := 818) rfl li_b100 ?_
  refine h_iastW X 7 (x10W_at cA a q1 q2 q3 q4 q5 q6 q7 (wf 126)) (i := (126 : Int32)) (j := 126) (by decide +kernel) (by decide +kernel) dX10_init_818 (q := 819) rfl (wf_s 126 (by decide +kernel)) (x10W_set cA a q1 q2 q3 q4 q5 q6 q7 (wf 126) (wf 127)) ?_
  refine h_dup X dX10_init_819 (q := 820) rfl rfl ?_
  refine h_bipush X dX10_init_820 (q := 822) rfl li_b127 ?_
  refine h_bipush X dX10_init_822 (q := 824) rfl li_b32 ?_
  refine h_iastW X 7 (x10W_at cA a q1 q2 q3 q4 q5 q6 q7 (wf 127)) (i := (127 : Int32)) (j := 127) (by decide +kernel) (by decide +kernel) dX10_init_824 (q := 825) rfl (wf_s 127 (by decide +kernel)) (x10W_set cA a q1 q2 q3 q4 q5 q6 q7 (wf 127) (wf 128)) ?_
  refine h_dup X dX10_init_825 (q := 826) rfl rfl ?_
  refine h_sipush X dX10_init_826 (q := 829) rfl li_s128 ?_
  refine h_bipush X dX10_init_829 (q := 831) rfl li_b110 ?_
  refine h_iastW X 7 (x10W_at cA a q1 q2 q3 q4 q5 q6 q7 (wf 128)) (i := (128 : Int32)) (j := 128) (by decide +kernel) (by decide +kernel) dX10_init_831 (q := 832) rfl (wf_s 128 (by decide +kernel)) (x10W_set cA a q1 q2 q3 q4 q5 q6 q7 (wf 128) (wf 129)) ?_
  refine h_dup X dX10_init_832 (q := 833) rfl rfl ?_
  refine h_sipush X dX10_init_833 (q := 836) rfl li_s129 ?_
  refine h_bipush X dX10_init_836 (q := 838) rfl li_b111 ?_
  refine h_iastW X 7 (x10W_at cA a q1 q2 q3 q4 q5 q6 q7 (wf 129)) (i := (129 : Int32)) (j := 129) (by decide +kernel) (by decide +kernel) dX10_init_838 (q := 839) rfl (wf_s 129 (by decide +kernel)) (x10W_set cA a q1 q2 q3 q4 q5 q6 q7 (wf 129) (wf 130)) ?_
  refine h_dup X dX10_init_839 (q := 840) rfl rfl ?_
  refine h_sipush X dX10_init_840 (q := 843) rfl li_s130 ?_
  refine h_bipush X dX10_init_843 (q := 845) rfl li_b114 ?_
  refine h_iastW X 7 (x10W_at cA a q1 q2 q3 q4 q5 q6 q7 (wf 130)) (i := (130 : Int32)) (j := 130) (by decide +kernel) (by decide +kernel) dX10_init_845 (q := 846) rfl (wf_s 130 (by decide +kernel)) (x10W_set cA a q1 q2 q3 q4 q5 q6 q7 (wf 130) (wf 131)) ?_
  refine h_dup X dX10_init_846 (q := 847) rfl rfl ?_
  refine h_sipush X dX10_init_847 (q := 850) rfl li_s131 ?_
  refine h_bipush X dX10_init_850 (q := 852) rfl li_b116 ?_
  refine h_iastW X 7 (x10W_at cA a q1 q2 q3 q4 q5 q6 q7 (wf 131)) (i := (131 : Int32)) (j := 131) (by decide +kernel) (by decide +kernel) dX10_init_852 (q := 853) rfl (wf_s 131 (by decide +kernel)) (x10W_set cA a q1 q2 q3 q4 q5 q6 q7 (wf 131) (wf 132)) ?_
  refine h_dup X dX10_init_853 (q := 854) rfl rfl ?_
  refine h_sipush X dX10_init_854 (q := 857) rfl li_s132 ?_
  refine h_bipush X dX10_init_857 (q := 859) rfl li_b104 ?_
  refine h_iastW X 7 (x10W_at cA a q1 q2 q3 q4 q5 q6 q7 (wf 132)) (i := (132 : Int32)) (j := 132) (by decide +kernel) (by decide +kernel) dX10_init_859 (q := 860) rfl (wf_s 132 (by decide +kernel)) (x10W_set cA a q1 q2 q3 q4 q5 q6 q7 (wf 132) (wf 133)) ?_
  refine h_dup X dX10_init_860 (q := 861) rfl rfl ?_
  refine h_sipush X dX10_init_861 (q := 864) rfl li_s133 ?_
  refine h_bipush X dX10_init_864 (q := 866) rfl li_b32 ?_
  refine h_iastW X 7 (x10W_at cA a q1 q2 q3 q4 q5 q6 q7 (wf 133)) (i := (133 : Int32)) (j := 133) (by decide +kernel) (by decide +kernel) dX10_init_866 (q := 867) rfl (wf_s 133 (by decide +kernel)) (x10W_set cA a q1 q2 q3 q4 q5 q6 q7 (wf 133) (wf 134)) ?_
  refine h_dup X dX10_init_867 (q := 868) rfl rfl ?_
  refine h_sipush X dX10_init_868 (q := 871) rfl li_s134 ?_
  refine h_bipush X dX10_init_871 (q := 873) rfl li_b101 ?_
  refine h_iastW X 7 (x10W_at cA a q1 q2 q3 q4 q5 q6 q7 (wf 134)) (i := (134 : Int32)) (j := 134) (by decide +kernel) (by decide +kernel) dX10_init_873 (q := 874) rfl (wf_s 134 (by decide +kernel)) (x10W_set cA a q1 q2 q3 q4 q5 q6 q7 (wf 134) (wf 135)) ?_
  refine h_dup X dX10_init_874 (q := 875) rfl rfl ?_
  refine h_sipush X dX10_init_875 (q := 878) rfl li_s135 ?_
  refine h_bipush X dX10_init_878 (q := 880) rfl li_b97 ?_
  refine h_iastW X 7 (x10W_at cA a q1 q2 q3 q4 q5 q6 q7 (wf 135)) (i := (135 : Int32)) (j := 135) (by decide +kernel) (by decide +kernel) dX10_init_880 (q := 881) rfl (wf_s 135 (by decide +kernel)) (x10W_set cA a q1 q2 q3 q4 q5 q6 q7 (wf 135) (wf 136)) ?_
  refine h_dup X dX10_init_881 (q := 882) rfl rfl ?_
  refine h_sipush X dX10_init_882 (q := 885) rfl li_s136 ?_
  refine h_bipush X dX10_init_885 (q := 887) rfl li_b115 ?_
  refine h_iastW X 7 (x10W_at cA a q1 q2 q3 q4 q5 q6 q7 (wf 136)) (i := (136 : Int32)) (j := 136) (by decide +kernel) (by decide +kernel) dX10_init_887 (q := 888) rfl (wf_s 136 (by decide +kernel)) (x10W_set cA a q1 q2 q3 q4 q5 q6 q7 (wf 136) (wf 137)) ?_
  refine h_dup X dX10_init_888 (q := 889) rfl rfl ?_
  refine h_sipush X dX10_init_889 (q := 892) rfl li_s137 ?_
  refine h_bipush X dX10_init_892 (q := 894) rfl li_b116 ?_
  refine h_iastW X 7 (x10W_at cA a q1 q2 q3 q4 q5 q6 q7 (wf 137)) (i := (137 : Int32)) (j := 137) (by decide +kernel) (by decide +kernel) dX10_init_894 (q := 895) rfl (wf_s 137 (by decide +kernel)) (x10W_set cA a q1 q2 q3 q4 q5 q6 q7 (wf 137) (wf 138)) ?_
  refine h_dup X dX10_init_895 (q := 896) rfl rfl ?_
  refine h_sipush X dX10_init_896 (q := 899) rfl li_s138 ?_
  refine h_bipush X dX10_init_899 (q := 901) rfl li_b32 ?_
  refine h_iastW X 7 (x10W_at cA a q1 q2 q3 q4 q5 q6 q7 (wf 138)) (i := (138 : Int32)) (j := 138) (by decide +kernel) (by decide +kernel) dX10_init_901 (q := 902) rfl (wf_s 138 (by decide +kernel)) (x10W_set cA a q1 q2 q3 q4 q5 q6 q7 (wf 138) (wf 139)) ?_
  refine h_dup X dX10_init_902 (q := 903) rfl rfl ?_
  refine h_sipush X dX10_init_903 (q := 906) rfl li_s139 ?_
  refine h_bipush X dX10_init_906 (q := 908) rfl li_b115 ?_
  refine h_iastW X 7 (x10W_at cA a q1 q2 q3 q4 q5 q6 q7 (wf 139)) (i := (139 : Int32)) (j := 139) (by decide +kernel) (by decide +kernel) dX10_init_908 (q := 909) rfl (wf_s 139 (by decide +kernel)) (x10W_set cA a q1 q2 q3 q4 q5 q6 q7 (wf 139) (wf 140)) ?_
  refine h_dup X dX10_init_909 (q := 910) rfl rfl ?_
  refine h_sipush X dX10_init_910 (q := 913) rfl li_s140 ?_
  refine h_bipush X dX10_init_913 (q := 915) rfl li_b111 ?_
  refine h_iastW X 7 (x10W_at cA a q1 q2 q3 q4 q5 q6 q7 (wf 140)) (i := (140 : Int32)) (j := 140) (by decide +kernel) (by decide +kernel) dX10_init_915 (q := 916) rfl (wf_s 140 (by decide +kernel)) (x10W_set cA a q1 q2 q3 q4 q5 q6 q7 (wf 140) (wf 141)) ?_
  refine h_dup X dX10_init_916 (q := 917) rfl rfl ?_
  refine h_sipush X dX10_init_917 (q := 920) rfl li_s141 ?_
  refine h_bipush X dX10_init_920 (q := 922) rfl li_b117 ?_
  refine h_iastW X 7 (x10W_at cA a q1 q2 q3 q4 q5 q6 q7 (wf 141)) (i := (141 : Int32)) (j := 141) (by decide +kernel) (by decide +kernel) dX10_init_922 (q := 923) rfl (wf_s 141 (by decide +kernel)) (x10W_set cA a q1 q2 q3 q4 q5 q6 q7 (wf 141) (wf 142)) ?_
  refine h_dup X dX10_init_923 (q := 924) rfl rfl ?_
  refine h_sipush X dX10_init_924 (q := 927) rfl li_s142 ?_
  refine h_bipush X dX10_init_927 (q := 929) rfl li_b116 ?_
  refine h_iastW X 7 (x10W_at cA a q1 q2 q3 q4 q5 q6 q7 (wf 142)) (i := (142 : Int32)) (j := 142) (by decide +kernel) (by decide +kernel) dX10_init_929 (q := 930) rfl (wf_s 142 (by decide +kernel)) (x10W_set cA a q1 q2 q3 q4 q5 q6 q7 (wf 142) (wf 143)) ?_
  refine h_dup X dX10_init_930 (q := 931) rfl rfl ?_
  refine h_sipush X dX10_init_931 (q := 934) rfl li_s143 ?_
  refine h_bipush X dX10_init_934 (q := 936) rfl li_b104 ?_
  refine h_iastW X 7 (x10W_at cA a q1 q2 q3 q4 q5 q6 q7 (wf 143)) (i := (143 : Int32)) (j := 143) (by decide +kernel) (by decide +kernel) dX10_init_936 (q := 937) rfl (wf_s 143 (by decide +kernel)) (x10W_set cA a q1 q2 q3 q4 q5 q6 q7 (wf 143) (wf 144)) ?_
  refine h_dup X dX10_init_937 (q := 938) rfl rfl ?_
  refine h_sipush X dX10_init_938 (q := 941) rfl li_s144 ?_
  refine h_bipush X dX10_init_941 (q := 943) rfl li_b32 ?_
  refine h_iastW X 7 (x10W_at cA a q1 q2 q3 q4 q5 q6 q7 (wf 144)) (i := (144 : Int32)) (j := 144) (by decide +kernel) (by decide +kernel) dX10_init_943 (q := 944) rfl (wf_s 144 (by decide +kernel)) (x10W_set cA a q1 q2 q3 q4 q5 q6 q7 (wf 144) (wf 145)) ?_
  refine h_dup X dX10_init_944 (q := 945) rfl rfl ?_
  refine h_sipush X dX10_init_945 (q := 948) rfl li_s145 ?_
  refine h_bipush X dX10_init_948 (q := 950) rfl li_b119 ?_
  refine h_iastW X 7 (x10W_at cA a q1 q2 q3 q4 q5 q6 q7 (wf 145)) (i := (145 : Int32)) (j := 145) (by decide +kernel) (by decide +kernel) dX10_init_950 (q := 951) rfl (wf_s 145 (by decide +kernel)) (x10W_set cA a q1 q2 q3 q4 q5 q6 q7 (wf 145) (wf 146)) ?_
  refine h_dup X dX10_init_951 (q := 952) rfl rfl ?_
  refine h_sipush X dX10_init_952 (q := 955) rfl li_s146 ?_
  refine h_bipush X dX10_init_955 (q := 957) rfl li_b101 ?_
  refine h_iastW X 7 (x10W_at cA a q1 q2 q3 q4 q5 q6 q7 (wf 146)) (i := (146 : Int32)) (j := 146) (by decide +kernel) (by decide +kernel) dX10_init_957 (q := 958) rfl (wf_s 146 (by decide +kernel)) (x10W_set cA a q1 q2 q3 q4 q5 q6 q7 (wf 146) (wf 147)) ?_
  refine h_dup X dX10_init_958 (q := 959) rfl rfl ?_
  refine h_sipush X dX10_init_959 (q := 962) rfl li_s147 ?_
  refine h_bipush X dX10_init_962 (q := 964) rfl li_b115 ?_
  refine h_iastW X 7 (x10W_at cA a q1 q2 q3 q4 q5 q6 q7 (wf 147)) (i := (147 : Int32)) (j := 147) (by decide +kernel) (by decide +kernel) dX10_init_964 (q := 965) rfl (wf_s 147 (by decide +kernel)) (x10W_set cA a q1 q2 q3 q4 q5 q6 q7 (wf 147) (wf 148)) ?_
  refine h_dup X dX10_init_965 (q := 966) rfl rfl ?_
  refine h_sipush X dX10_init_966 (q := 969) rfl li_s148 ?_
  refine h_bipush X dX10_init_969 (q := 971) rfl li_b116 ?_
  refine h_iastW X 7 (x10W_at cA a q1 q2 q3 q4 q5 q6 q7 (wf 148)) (i := (148 : Int32)) (j := 148) (by decide +kernel) (by decide +kernel) dX10_init_971 (q := 972) rfl (wf_s 148 (by decide +kernel)) (x10W_set cA a q1 q2 q3 q4 q5 q6 q7 (wf 148) (wf 149)) ?_
  refine h_dup X dX10_init_972 (q := 973) rfl rfl ?_
  refine h_sipush X dX10_init_973 (q := 976) rfl li_s149 ?_
  refine h_bipush X dX10_init_976 (q := 978) rfl li_b32 ?_
  refine h_iastW X 7 (x10W_at cA a q1 q2 q3 q4 q5 q6 q7 (wf 149)) (i := (149 : Int32)) (j := 149) (by decide +kernel) (by decide +kernel) dX10_init_978 (q := 979) rfl (wf_s 149 (by decide +kernel)) (x10W_set cA a q1 q2 q3 q4 q5 q6 q7 (wf 149) (wf 150)) ?_
  exact k
set_option maxRecDepth 100000 in
set_option maxHeartbeats 8000000 in
theorem k_X10_init (l : Launch) (D : va_G) (cA cL : ClassId) (a : Nat) : MC l yX10_init cX10_init 1 D cA cL 2 23 10014 [(a, .inr (10, [.int 0, .null, .null, .int 0, .null, .int 0, .int 0, .int 0, .int 0, .null, .null, .null, .int 0, .int 0, .int 0, .int 0, .int 0, .null, .null, .null, .null, .null, .null, .null, .null, .int 0, .int 0, .int 0, .null, .int 0, .int 0, .int 0, .int 0, .int 0, .int 0, .null, .int 0, .null, .int 0, .int 0, .int 0, .null, .int 0, .null, .null, .null, .int 0, .null, .int 0, .int 0, .int 0, .int 0, .int 0, .null]))] [.ref a] (wX10_init cA cL a) := by
  refine met_c (by decide) rfl (Nat.le_of_ble_eq_true rfl) ?_
  intro p e st m args below meth c Q A X RI
  refine h_aload_n X dX10_init_0 (q := 1) rfl 0 rfl ?_
  refine h_objInit X dX10_init_1 (q := 4) rfl (gt_of 1283 (by decide +kernel) rfl) ⟨(Nat.le_of_ble_eq_true rfl), (Nat.le_of_ble_eq_true rfl)⟩ (Nat.le_of_ble_eq_true rfl) ?_
  refine h_aload_n X dX10_init_4 (q := 5) rfl 0 rfl ?_
  refine h_sipush X dX10_init_5 (q := 8) rfl li_s389 ?_
  refine h_newa X (by decide) (N := 389) (by decide) (Nat.le_of_ble_eq_true rfl) (Nat.le_of_ble_eq_true rfl) (Nat.le_of_ble_eq_true rfl) (ce2 := 1) (sl2 := 389) rfl rfl dX10_init_8 (q := 10) rfl (fun q1 => ?_)
  refine h_ws (ws' := [(a, .inr (10, [.int 0, .null, .null, .int 0, .null, .int 0, .int 0, .int 0, .int 0, .null, .null, .null, .int 0, .int 0, .int 0, .int 0, .int 0, .null, .null, .null, .null, .null, .null, .null, .null, .int 0, .int 0, .int 0, .null, .int 0, .int 0, .int 0, .int 0, .int 0, .int 0, .null, .int 0, .null, .int 0, .int 0, .int 0, .null, .int 0, .null, .null, .null, .int 0, .null, .int 0, .int 0, .int 0, .int 0, .int 0, .null])), (q1, .inl (cA, 389, .inl (fun _ => 0)))]) rfl ?_
  refine h_putF X 0 10 rfl rfl inX10 1 (Nat.le_of_ble_eq_true rfl) rfl (gt_of 1285 (by decide +kernel) rfl) tyX10 tyX10_ok nmX10 rfl rfl (ty := (.array .int)) rfl rfl rfl (Nat.le_of_ble_eq_true rfl) (ws' := [(a, .inr (10, [.int 0, .ref q1, .null, .int 0, .null, .int 0, .int 0, .int 0, .int 0, .null, .null, .null, .int 0, .int 0, .int 0, .int 0, .int 0, .null, .null, .null, .null, .null, .null, .null, .null, .int 0, .int 0, .int 0, .null, .int 0, .int 0, .int 0, .int 0, .int 0, .int 0, .null, .int 0, .null, .int 0, .int 0, .int 0, .null, .int 0, .null, .null, .null, .int 0, .null, .int 0, .int 0, .int 0, .int 0, .int 0, .null])), (q1, .inl (cA, 389, .inl (fun _ => 0)))]) rfl dX10_init_10 (q := 13) rfl ?_
  refine h_aload_n X dX10_init_13 (q := 14) rfl 0 rfl ?_
  refine h_sipush X dX10_init_14 (q := 17) rfl li_s2334 ?_
  refine h_newa X (by decide) (N := 2334) (by decide) (Nat.le_of_ble_eq_true rfl) (Nat.le_of_ble_eq_true rfl) (Nat.le_of_ble_eq_true rfl) (ce2 := 2) (sl2 := 2723) rfl rfl dX10_init_17 (q := 19) rfl (fun q2 => ?_)
  refine h_ws (ws' := [(a, .inr (10, [.int 0, .ref q1, .null, .int 0, .null, .int 0, .int 0, .int 0, .int 0, .null, .null, .null, .int 0, .int 0, .int 0, .int 0, .int 0, .null, .null, .null, .null, .null, .null, .null, .null, .int 0, .int 0, .int 0, .null, .int 0, .int 0, .int 0, .int 0, .int 0, .int 0, .null, .int 0, .null, .int 0, .int 0, .int 0, .null, .int 0, .null, .null, .null, .int 0, .null, .int 0, .int 0, .int 0, .int 0, .int 0, .null])), (q1, .inl (cA, 389, .inl (fun _ => 0))), (q2, .inl (cA, 2334, .inl (fun _ => 0)))]) rfl ?_
  refine h_putF X 0 10 rfl rfl inX10 2 (Nat.le_of_ble_eq_true rfl) rfl (gt_of 1286 (by decide +kernel) rfl) tyX10 tyX10_ok nmX10 rfl rfl (ty := (.array .int)) rfl rfl rfl (Nat.le_of_ble_eq_true rfl) (ws' := [(a, .inr (10, [.int 0, .ref q1, .ref q2, .int 0, .null, .int 0, .int 0, .int 0, .int 0, .null, .null, .null, .int 0, .int 0, .int 0, .int 0, .int 0, .null, .null, .null, .null, .null, .null, .null, .null, .int 0, .int 0, .int 0, .null, .int 0, .int 0, .int 0, .int 0, .int 0, .int 0, .null, .int 0, .null, .int 0, .int 0, .int 0, .null, .int 0, .null, .null, .null, .int 0, .null, .int 0, .int 0, .int 0, .int 0, .int 0, .null])), (q1, .inl (cA, 389, .inl (fun _ => 0))), (q2, .inl (cA, 2334, .inl (fun _ => 0)))]) rfl dX10_init_19 (q := 22) rfl ?_
  refine h_aload_n X dX10_init_22 (q := 23) rfl 0 rfl ?_
  refine h_sipush X dX10_init_23 (q := 26) rfl li_s389 ?_
  refine h_newa X (by decide) (N := 389) (by decide) (Nat.le_of_ble_eq_true rfl) (Nat.le_of_ble_eq_true rfl) (Nat.le_of_ble_eq_true rfl) (ce2 := 3) (sl2 := 3112) rfl rfl dX10_init_26 (q := 28) rfl (fun q3 => ?_)
  refine h_ws (ws' := [(a, .inr (10, [.int 0, .ref q1, .ref q2, .int 0, .null, .int 0, .int 0, .int 0, .int 0, .null, .null, .null, .int 0, .int 0, .int 0, .int 0, .int 0, .null, .null, .null, .null, .null, .null, .null, .null, .int 0, .int 0, .int 0, .null, .int 0, .int 0, .int 0, .int 0, .int 0, .int 0, .null, .int 0, .null, .int 0, .int 0, .int 0, .null, .int 0, .null, .null, .null, .int 0, .null, .int 0, .int 0, .int 0, .int 0, .int 0, .null])), (q1, .inl (cA, 389, .inl (fun _ => 0))), (q2, .inl (cA, 2334, .inl (fun _ => 0))), (q3, .inl (cA, 389, .inl (fun _ => 0)))]) rfl ?_
  refine h_putF X 0 10 rfl rfl inX10 4 (Nat.le_of_ble_eq_true rfl) rfl (gt_of 1288 (by decide +kernel) rfl) tyX10 tyX10_ok nmX10 rfl rfl (ty := (.array .int)) rfl rfl rfl (Nat.le_of_ble_eq_true rfl) (ws' := [(a, .inr (10, [.int 0, .ref q1, .ref q2, .int 0, .ref q3, .int 0, .int 0, .int 0, .int 0, .null, .null, .null, .int 0, .int 0, .int 0, .int 0, .int 0, .null, .null, .null, .null, .null, .null, .null, .null, .int 0, .int 0, .int 0, .null, .int 0, .int 0, .int 0, .int 0, .int 0, .int 0, .null, .int 0, .null, .int 0, .int 0, .int 0, .null, .int 0, .null, .null, .null, .int 0, .null, .int 0, .int 0, .int 0, .int 0, .int 0, .null])), (q1, .inl (cA, 389, .inl (fun _ => 0))), (q2, .inl (cA, 2334, .inl (fun _ => 0))), (q3, .inl (cA, 389, .inl (fun _ => 0)))]) rfl dX10_init_28 (q := 31) rfl ?_
  refine h_aload_n X dX10_init_31 (q := 32) rfl 0 rfl ?_
  refine h_bipush X dX10_init_32 (q := 34) rfl li_b64 ?_
  refine h_newa X (by decide) (N := 64) (by decide) (Nat.le_of_ble_eq_true rfl) (Nat.le_of_ble_eq_true rfl) (Nat.le_of_ble_eq_true rfl) (ce2 := 4) (sl2 := 3176) rfl rfl dX10_init_34 (q := 36) rfl (fun q4 => ?_)
  refine h_ws (ws' := [(a, .inr (10, [.int 0, .ref q1, .ref q2, .int 0, .ref q3, .int 0, .int 0, .int 0, .int 0, .null, .null, .null, .int 0, .int 0, .int 0, .int 0, .int 0, .null, .null, .null, .null, .null, .null, .null, .null, .int 0, .int 0, .int 0, .null, .int 0, .int 0, .int 0, .int 0, .int 0, .int 0, .null, .int 0, .null, .int 0, .int 0, .int 0, .null, .int 0, .null, .null, .null, .int 0, .null, .int 0, .int 0, .int 0, .int 0, .int 0, .null])), (q1, .inl (cA, 389, .inl (fun _ => 0))), (q2, .inl (cA, 2334, .inl (fun _ => 0))), (q3, .inl (cA, 389, .inl (fun _ => 0))), (q4, .inl (cA, 64, .inl (fun _ => 0)))]) rfl ?_
  refine h_putF X 0 10 rfl rfl inX10 9 (Nat.le_of_ble_eq_true rfl) rfl (gt_of 1293 (by decide +kernel) rfl) tyX10 tyX10_ok nmX10 rfl rfl (ty := (.array .int)) rfl rfl rfl (Nat.le_of_ble_eq_true rfl) (ws' := [(a, .inr (10, [.int 0, .ref q1, .ref q2, .int 0, .ref q3, .int 0, .int 0, .int 0, .int 0, .ref q4, .null, .null, .int 0, .int 0, .int 0, .int 0, .int 0, .null, .null, .null, .null, .null, .null, .null, .null, .int 0, .int 0, .int 0, .null, .int 0, .int 0, .int 0, .int 0, .int 0, .int 0, .null, .int 0, .null, .int 0, .int 0, .int 0, .null, .int 0, .null, .null, .null, .int 0, .null, .int 0, .int 0, .int 0, .int 0, .int 0, .null])), (q1, .inl (cA, 389, .inl (fun _ => 0))), (q2, .inl (cA, 2334, .inl (fun _ => 0))), (q3, .inl (cA, 389, .inl (fun _ => 0))), (q4, .inl (cA, 64, .inl (fun _ => 0)))]) rfl dX10_init_36 (q := 39) rfl ?_
  refine h_aload_n X dX10_init_39 (q := 40) rfl 0 rfl ?_
  refine h_sipush X dX10_init_40 (q := 43) rfl li_s600 ?_
  refine h_newa X (by decide) (N := 600) (by decide) (Nat.le_of_ble_eq_true rfl) (Nat.le_of_ble_eq_true rfl) (Nat.le_of_ble_eq_true rfl) (ce2 := 5) (sl2 := 3776) rfl rfl dX10_init_43 (q := 45) rfl (fun q5 => ?_)
  refine h_ws (ws' := [(a, .inr (10, [.int 0, .ref q1, .ref q2, .int 0, .ref q3, .int 0, .int 0, .int 0, .int 0, .ref q4, .null, .null, .int 0, .int 0, .int 0, .int 0, .int 0, .null, .null, .null, .null, .null, .null, .null, .null, .int 0, .int 0, .int 0, .null, .int 0, .int 0, .int 0, .int 0, .int 0, .int 0, .null, .int 0, .null, .int 0, .int 0, .int 0, .null, .int 0, .null, .null, .null, .int 0, .null, .int 0, .int 0, .int 0, .int 0, .int 0, .null])), (q1, .inl (cA, 389, .inl (fun _ => 0))), (q2, .inl (cA, 2334, .inl (fun _ => 0))), (q3, .inl (cA, 389, .inl (fun _ => 0))), (q4, .inl (cA, 64, .inl (fun _ => 0))), (q5, .inl (cA, 600, .inl (fun _ => 0)))]) rfl ?_
  refine h_putF X 0 10 rfl rfl inX10 10 (Nat.le_of_ble_eq_true rfl) rfl (gt_of 1294 (by decide +kernel) rfl) tyX10 tyX10_ok nmX10 rfl rfl (ty := (.array .int)) rfl rfl rfl (Nat.le_of_ble_eq_true rfl) (ws' := [(a, .inr (10, [.int 0, .ref q1, .ref q2, .int 0, .ref q3, .int 0, .int 0, .int 0, .int 0, .ref q4, .ref q5, .null, .int 0, .int 0, .int 0, .int 0, .int 0, .null, .null, .null, .null, .null, .null, .null, .null, .int 0, .int 0, .int 0, .null, .int 0, .int 0, .int 0, .int 0, .int 0, .int 0, .null, .int 0, .null, .int 0, .int 0, .int 0, .null, .int 0, .null, .null, .null, .int 0, .null, .int 0, .int 0, .int 0, .int 0, .int 0, .null])), (q1, .inl (cA, 389, .inl (fun _ => 0))), (q2, .inl (cA, 2334, .inl (fun _ => 0))), (q3, .inl (cA, 389, .inl (fun _ => 0))), (q4, .inl (cA, 64, .inl (fun _ => 0))), (q5, .inl (cA, 600, .inl (fun _ => 0)))]) rfl dX10_init_45 (q := 48) rfl ?_
  refine h_aload_n X dX10_init_48 (q := 49) rfl 0 rfl ?_
  refine h_sipush X dX10_init_49 (q := 52) rfl li_s400 ?_
  refine h_newa X (by decide) (N := 400) (by decide) (Nat.le_of_ble_eq_true rfl) (Nat.le_of_ble_eq_true rfl) (Nat.le_of_ble_eq_true rfl) (ce2 := 6) (sl2 := 4176) rfl rfl dX10_init_52 (q := 54) rfl (fun q6 => ?_)
  refine h_ws (ws' := [(a, .inr (10, [.int 0, .ref q1, .ref q2, .int 0, .ref q3, .int 0, .int 0, .int 0, .int 0, .ref q4, .ref q5, .null, .int 0, .int 0, .int 0, .int 0, .int 0, .null, .null, .null, .null, .null, .null, .null, .null, .int 0, .int 0, .int 0, .null, .int 0, .int 0, .int 0, .int 0, .int 0, .int 0, .null, .int 0, .null, .int 0, .int 0, .int 0, .null, .int 0, .null, .null, .null, .int 0, .null, .int 0, .int 0, .int 0, .int 0, .int 0, .null])), (q1, .inl (cA, 389, .inl (fun _ => 0))), (q2, .inl (cA, 2334, .inl (fun _ => 0))), (q3, .inl (cA, 389, .inl (fun _ => 0))), (q4, .inl (cA, 64, .inl (fun _ => 0))), (q5, .inl (cA, 600, .inl (fun _ => 0))), (q6, .inl (cA, 400, .inl (fun _ => 0)))]) rfl ?_
  refine h_putF X 0 10 rfl rfl inX10 11 (Nat.le_of_ble_eq_true rfl) rfl (gt_of 1295 (by decide +kernel) rfl) tyX10 tyX10_ok nmX10 rfl rfl (ty := (.array .int)) rfl rfl rfl (Nat.le_of_ble_eq_true rfl) (ws' := [(a, .inr (10, [.int 0, .ref q1, .ref q2, .int 0, .ref q3, .int 0, .int 0, .int 0, .int 0, .ref q4, .ref q5, .ref q6, .int 0, .int 0, .int 0, .int 0, .int 0, .null, .null, .null, .null, .null, .null, .null, .null, .int 0, .int 0, .int 0, .null, .int 0, .int 0, .int 0, .int 0, .int 0, .int 0, .null, .int 0, .null, .int 0, .int 0, .int 0, .null, .int 0, .null, .null, .null, .int 0, .null, .int 0, .int 0, .int 0, .int 0, .int 0, .null])), (q1, .inl (cA, 389, .inl (fun _ => 0))), (q2, .inl (cA, 2334, .inl (fun _ => 0))), (q3, .inl (cA, 389, .inl (fun _ => 0))), (q4, .inl (cA, 64, .inl (fun _ => 0))), (q5, .inl (cA, 600, .inl (fun _ => 0))), (q6, .inl (cA, 400, .inl (fun _ => 0)))]) rfl dX10_init_54 (q := 57) rfl ?_
  refine h_aload_n X dX10_init_57 (q := 58) rfl 0 rfl ?_
  refine h_sipush X dX10_init_58 (q := 61) rfl li_s150 ?_
  refine h_newa X (by decide) (N := 150) (by decide) (Nat.le_of_ble_eq_true rfl) (Nat.le_of_ble_eq_true rfl) (Nat.le_of_ble_eq_true rfl) (ce2 := 7) (sl2 := 4326) rfl rfl dX10_init_61 (q := 63) rfl (fun q7 => ?_)
  refine h_ws (ws' := [(a, .inr (10, [.int 0, .ref q1, .ref q2, .int 0, .ref q3, .int 0, .int 0, .int 0, .int 0, .ref q4, .ref q5, .ref q6, .int 0, .int 0, .int 0, .int 0, .int 0, .null, .null, .null, .null, .null, .null, .null, .null, .int 0, .int 0, .int 0, .null, .int 0, .int 0, .int 0, .int 0, .int 0, .int 0, .null, .int 0, .null, .int 0, .int 0, .int 0, .null, .int 0, .null, .null, .null, .int 0, .null, .int 0, .int 0, .int 0, .int 0, .int 0, .null])), (q1, .inl (cA, 389, .inl (fun _ => 0))), (q2, .inl (cA, 2334, .inl (fun _ => 0))), (q3, .inl (cA, 389, .inl (fun _ => 0))), (q4, .inl (cA, 64, .inl (fun _ => 0))), (q5, .inl (cA, 600, .inl (fun _ => 0))), (q6, .inl (cA, 400, .inl (fun _ => 0))), (q7, .inl (cA, 150, .inl (fun _ => 0)))]) rfl ?_
  refine h_dup X dX10_init_63 (q := 64) rfl rfl ?_
  refine h_iconst X dX10_init_64 (q := 65) rfl li_i0 ?_
  refine h_bipush X dX10_init_65 (q := 67) rfl li_b32 ?_
  refine h_ws (x10W_0 cA a q1 q2 q3 q4 q5 q6 q7 (fun _ => 0)) ?_
  refine h_iastW X 7 (x10W_at cA a q1 q2 q3 q4 q5 q6 q7 (fun _ => 0)) (i := (0 : Int32)) (j := 0) (by decide +kernel) (by decide +kernel) dX10_init_67 (q := 68) rfl (wf_first) (x10W_set cA a q1 q2 q3 q4 q5 q6 q7 (fun _ => 0) (wf 1)) ?_
  refine st10_1 X ?_
  refine st10_26 X ?_
  refine st10_51 X ?_
  refine st10_76 X ?_
  refine st10_101 X ?_
  refine st10_126 X ?_
  refine h_ws (x10W_0 cA a q1 q2 q3 q4 q5 q6 q7 (wf 150)).symm ?_
  refine h_putF X 0 10 rfl rfl inX10 17 (Nat.le_of_ble_eq_true rfl) rfl (gt_of 1301 (by decide +kernel) rfl) tyX10 tyX10_ok nmX10 rfl rfl (ty := (.array .int)) rfl rfl rfl (Nat.le_of_ble_eq_true rfl) (ws' := [(a, .inr (10, [.int 0, .ref q1, .ref q2, .int 0, .ref q3, .int 0, .int 0, .int 0, .int 0, .ref q4, .ref q5, .ref q6, .int 0, .int 0, .int 0, .int 0, .int 0, .ref q7, .null, .null, .null, .null, .null, .null, .null, .int 0, .int 0, .int 0, .null, .int 0, .int 0, .int 0, .int 0, .int 0, .int 0, .null, .int 0, .null, .int 0, .int 0, .int 0, .null, .int 0, .null, .null, .null, .int 0, .null, .int 0, .int 0, .int 0, .int 0, .int 0, .null])), (q1, .inl (cA, 389, .inl (fun _ => 0))), (q2, .inl (cA, 2334, .inl (fun _ => 0))), (q3, .inl (cA, 389, .inl (fun _ => 0))), (q4, .inl (cA, 64, .inl (fun _ => 0))), (q5, .inl (cA, 600, .inl (fun _ => 0))), (q6, .inl (cA, 400, .inl (fun _ => 0))), (q7, .inl (cA, 150, .inl (wf 150)))]) rfl dX10_init_979 (q := 982) rfl ?_
  refine h_aload_n X dX10_init_982 (q := 983) rfl 0 rfl ?_
  refine h_iconst X dX10_init_983 (q := 984) rfl li_i2 ?_
  refine h_newa X (by decide) (N := 2) (by decide) (Nat.le_of_ble_eq_true rfl) (Nat.le_of_ble_eq_true rfl) (Nat.le_of_ble_eq_true rfl) (ce2 := 8) (sl2 := 4328) rfl rfl dX10_init_984 (q := 986) rfl (fun q8 => ?_)
  refine h_ws (ws' := [(a, .inr (10, [.int 0, .ref q1, .ref q2, .int 0, .ref q3, .int 0, .int 0, .int 0, .int 0, .ref q4, .ref q5, .ref q6, .int 0, .int 0, .int 0, .int 0, .int 0, .ref q7, .null, .null, .null, .null, .null, .null, .null, .int 0, .int 0, .int 0, .null, .int 0, .int 0, .int 0, .int 0, .int 0, .int 0, .null, .int 0, .null, .int 0, .int 0, .int 0, .null, .int 0, .null, .null, .null, .int 0, .null, .int 0, .int 0, .int 0, .int 0, .int 0, .null])), (q1, .inl (cA, 389, .inl (fun _ => 0))), (q2, .inl (cA, 2334, .inl (fun _ => 0))), (q3, .inl (cA, 389, .inl (fun _ => 0))), (q4, .inl (cA, 64, .inl (fun _ => 0))), (q5, .inl (cA, 600, .inl (fun _ => 0))), (q6, .inl (cA, 400, .inl (fun _ => 0))), (q7, .inl (cA, 150, .inl (wf 150))), (q8, .inl (cA, 2, .inl (fun _ => 0)))]) rfl ?_
  refine h_putF X 0 10 rfl rfl inX10 18 (Nat.le_of_ble_eq_true rfl) rfl (gt_of 1302 (by decide +kernel) rfl) tyX10 tyX10_ok nmX10 rfl rfl (ty := (.array .int)) rfl rfl rfl (Nat.le_of_ble_eq_true rfl) (ws' := [(a, .inr (10, [.int 0, .ref q1, .ref q2, .int 0, .ref q3, .int 0, .int 0, .int 0, .int 0, .ref q4, .ref q5, .ref q6, .int 0, .int 0, .int 0, .int 0, .int 0, .ref q7, .ref q8, .null, .null, .null, .null, .null, .null, .int 0, .int 0, .int 0, .null, .int 0, .int 0, .int 0, .int 0, .int 0, .int 0, .null, .int 0, .null, .int 0, .int 0, .int 0, .null, .int 0, .null, .null, .null, .int 0, .null, .int 0, .int 0, .int 0, .int 0, .int 0, .null])), (q1, .inl (cA, 389, .inl (fun _ => 0))), (q2, .inl (cA, 2334, .inl (fun _ => 0))), (q3, .inl (cA, 389, .inl (fun _ => 0))), (q4, .inl (cA, 64, .inl (fun _ => 0))), (q5, .inl (cA, 600, .inl (fun _ => 0))), (q6, .inl (cA, 400, .inl (fun _ => 0))), (q7, .inl (cA, 150, .inl (wf 150))), (q8, .inl (cA, 2, .inl (fun _ => 0)))]) rfl dX10_init_986 (q := 989) rfl ?_
  refine h_aload_n X dX10_init_989 (q := 990) rfl 0 rfl ?_
  refine h_bipush X dX10_init_990 (q := 992) rfl li_b48 ?_
  refine h_newa X (by decide) (N := 48) (by decide) (Nat.le_of_ble_eq_true rfl) (Nat.le_of_ble_eq_true rfl) (Nat.le_of_ble_eq_true rfl) (ce2 := 9) (sl2 := 4376) rfl rfl dX10_init_992 (q := 994) rfl (fun q9 => ?_)
  refine h_ws (ws' := [(a, .inr (10, [.int 0, .ref q1, .ref q2, .int 0, .ref q3, .int 0, .int 0, .int 0, .int 0, .ref q4, .ref q5, .ref q6, .int 0, .int 0, .int 0, .int 0, .int 0, .ref q7, .ref q8, .null, .null, .null, .null, .null, .null, .int 0, .int 0, .int 0, .null, .int 0, .int 0, .int 0, .int 0, .int 0, .int 0, .null, .int 0, .null, .int 0, .int 0, .int 0, .null, .int 0, .null, .null, .null, .int 0, .null, .int 0, .int 0, .int 0, .int 0, .int 0, .null])), (q1, .inl (cA, 389, .inl (fun _ => 0))), (q2, .inl (cA, 2334, .inl (fun _ => 0))), (q3, .inl (cA, 389, .inl (fun _ => 0))), (q4, .inl (cA, 64, .inl (fun _ => 0))), (q5, .inl (cA, 600, .inl (fun _ => 0))), (q6, .inl (cA, 400, .inl (fun _ => 0))), (q7, .inl (cA, 150, .inl (wf 150))), (q8, .inl (cA, 2, .inl (fun _ => 0))), (q9, .inl (cA, 48, .inl (fun _ => 0)))]) rfl ?_
  refine h_putF X 0 10 rfl rfl inX10 19 (Nat.le_of_ble_eq_true rfl) rfl (gt_of 1303 (by decide +kernel) rfl) tyX10 tyX10_ok nmX10 rfl rfl (ty := (.array .int)) rfl rfl rfl (Nat.le_of_ble_eq_true rfl) (ws' := [(a, .inr (10, [.int 0, .ref q1, .ref q2, .int 0, .ref q3, .int 0, .int 0, .int 0, .int 0, .ref q4, .ref q5, .ref q6, .int 0, .int 0, .int 0, .int 0, .int 0, .ref q7, .ref q8, .ref q9, .null, .null, .null, .null, .null, .int 0, .int 0, .int 0, .null, .int 0, .int 0, .int 0, .int 0, .int 0, .int 0, .null, .int 0, .null, .int 0, .int 0, .int 0, .null, .int 0, .null, .null, .null, .int 0, .null, .int 0, .int 0, .int 0, .int 0, .int 0, .null])), (q1, .inl (cA, 389, .inl (fun _ => 0))), (q2, .inl (cA, 2334, .inl (fun _ => 0))), (q3, .inl (cA, 389, .inl (fun _ => 0))), (q4, .inl (cA, 64, .inl (fun _ => 0))), (q5, .inl (cA, 600, .inl (fun _ => 0))), (q6, .inl (cA, 400, .inl (fun _ => 0))), (q7, .inl (cA, 150, .inl (wf 150))), (q8, .inl (cA, 2, .inl (fun _ => 0))), (q9, .inl (cA, 48, .inl (fun _ => 0)))]) rfl dX10_init_994 (q := 997) rfl ?_
  refine h_aload_n X dX10_init_997 (q := 998) rfl 0 rfl ?_
  refine h_bipush X dX10_init_998 (q := 1000) rfl li_b48 ?_
  refine h_newa X (by decide) (N := 48) (by decide) (Nat.le_of_ble_eq_true rfl) (Nat.le_of_ble_eq_true rfl) (Nat.le_of_ble_eq_true rfl) (ce2 := 10) (sl2 := 4424) rfl rfl dX10_init_1000 (q := 1002) rfl (fun q10 => ?_)
  refine h_ws (ws' := [(a, .inr (10, [.int 0, .ref q1, .ref q2, .int 0, .ref q3, .int 0, .int 0, .int 0, .int 0, .ref q4, .ref q5, .ref q6, .int 0, .int 0, .int 0, .int 0, .int 0, .ref q7, .ref q8, .ref q9, .null, .null, .null, .null, .null, .int 0, .int 0, .int 0, .null, .int 0, .int 0, .int 0, .int 0, .int 0, .int 0, .null, .int 0, .null, .int 0, .int 0, .int 0, .null, .int 0, .null, .null, .null, .int 0, .null, .int 0, .int 0, .int 0, .int 0, .int 0, .null])), (q1, .inl (cA, 389, .inl (fun _ => 0))), (q2, .inl (cA, 2334, .inl (fun _ => 0))), (q3, .inl (cA, 389, .inl (fun _ => 0))), (q4, .inl (cA, 64, .inl (fun _ => 0))), (q5, .inl (cA, 600, .inl (fun _ => 0))), (q6, .inl (cA, 400, .inl (fun _ => 0))), (q7, .inl (cA, 150, .inl (wf 150))), (q8, .inl (cA, 2, .inl (fun _ => 0))), (q9, .inl (cA, 48, .inl (fun _ => 0))), (q10, .inl (cA, 48, .inl (fun _ => 0)))]) rfl ?_
  refine h_putF X 0 10 rfl rfl inX10 20 (Nat.le_of_ble_eq_true rfl) rfl (gt_of 1304 (by decide +kernel) rfl) tyX10 tyX10_ok nmX10 rfl rfl (ty := (.array .int)) rfl rfl rfl (Nat.le_of_ble_eq_true rfl) (ws' := [(a, .inr (10, [.int 0, .ref q1, .ref q2, .int 0, .ref q3, .int 0, .int 0, .int 0, .int 0, .ref q4, .ref q5, .ref q6, .int 0, .int 0, .int 0, .int 0, .int 0, .ref q7, .ref q8, .ref q9, .ref q10, .null, .null, .null, .null, .int 0, .int 0, .int 0, .null, .int 0, .int 0, .int 0, .int 0, .int 0, .int 0, .null, .int 0, .null, .int 0, .int 0, .int 0, .null, .int 0, .null, .null, .null, .int 0, .null, .int 0, .int 0, .int 0, .int 0, .int 0, .null])), (q1, .inl (cA, 389, .inl (fun _ => 0))), (q2, .inl (cA, 2334, .inl (fun _ => 0))), (q3, .inl (cA, 389, .inl (fun _ => 0))), (q4, .inl (cA, 64, .inl (fun _ => 0))), (q5, .inl (cA, 600, .inl (fun _ => 0))), (q6, .inl (cA, 400, .inl (fun _ => 0))), (q7, .inl (cA, 150, .inl (wf 150))), (q8, .inl (cA, 2, .inl (fun _ => 0))), (q9, .inl (cA, 48, .inl (fun _ => 0))), (q10, .inl (cA, 48, .inl (fun _ => 0)))]) rfl dX10_init_1002 (q := 1005) rfl ?_
  refine h_aload_n X dX10_init_1005 (q := 1006) rfl 0 rfl ?_
  refine h_bipush X dX10_init_1006 (q := 1008) rfl li_b48 ?_
  refine h_newa X (by decide) (N := 48) (by decide) (Nat.le_of_ble_eq_true rfl) (Nat.le_of_ble_eq_true rfl) (Nat.le_of_ble_eq_true rfl) (ce2 := 11) (sl2 := 4472) rfl rfl dX10_init_1008 (q := 1010) rfl (fun q11 => ?_)
  refine h_ws (ws' := [(a, .inr (10, [.int 0, .ref q1, .ref q2, .int 0, .ref q3, .int 0, .int 0, .int 0, .int 0, .ref q4, .ref q5, .ref q6, .int 0, .int 0, .int 0, .int 0, .int 0, .ref q7, .ref q8, .ref q9, .ref q10, .null, .null, .null, .null, .int 0, .int 0, .int 0, .null, .int 0, .int 0, .int 0, .int 0, .int 0, .int 0, .null, .int 0, .null, .int 0, .int 0, .int 0, .null, .int 0, .null, .null, .null, .int 0, .null, .int 0, .int 0, .int 0, .int 0, .int 0, .null])), (q1, .inl (cA, 389, .inl (fun _ => 0))), (q2, .inl (cA, 2334, .inl (fun _ => 0))), (q3, .inl (cA, 389, .inl (fun _ => 0))), (q4, .inl (cA, 64, .inl (fun _ => 0))), (q5, .inl (cA, 600, .inl (fun _ => 0))), (q6, .inl (cA, 400, .inl (fun _ => 0))), (q7, .inl (cA, 150, .inl (wf 150))), (q8, .inl (cA, 2, .inl (fun _ => 0))), (q9, .inl (cA, 48, .inl (fun _ => 0))), (q10, .inl (cA, 48, .inl (fun _ => 0))), (q11, .inl (cA, 48, .inl (fun _ => 0)))]) rfl ?_
  refine h_putF X 0 10 rfl rfl inX10 21 (Nat.le_of_ble_eq_true rfl) rfl (gt_of 1305 (by decide +kernel) rfl) tyX10 tyX10_ok nmX10 rfl rfl (ty := (.array .int)) rfl rfl rfl (Nat.le_of_ble_eq_true rfl) (ws' := [(a, .inr (10, [.int 0, .ref q1, .ref q2, .int 0, .ref q3, .int 0, .int 0, .int 0, .int 0, .ref q4, .ref q5, .ref q6, .int 0, .int 0, .int 0, .int 0, .int 0, .ref q7, .ref q8, .ref q9, .ref q10, .ref q11, .null, .null, .null, .int 0, .int 0, .int 0, .null, .int 0, .int 0, .int 0, .int 0, .int 0, .int 0, .null, .int 0, .null, .int 0, .int 0, .int 0, .null, .int 0, .null, .null, .null, .int 0, .null, .int 0, .int 0, .int 0, .int 0, .int 0, .null])), (q1, .inl (cA, 389, .inl (fun _ => 0))), (q2, .inl (cA, 2334, .inl (fun _ => 0))), (q3, .inl (cA, 389, .inl (fun _ => 0))), (q4, .inl (cA, 64, .inl (fun _ => 0))), (q5, .inl (cA, 600, .inl (fun _ => 0))), (q6, .inl (cA, 400, .inl (fun _ => 0))), (q7, .inl (cA, 150, .inl (wf 150))), (q8, .inl (cA, 2, .inl (fun _ => 0))), (q9, .inl (cA, 48, .inl (fun _ => 0))), (q10, .inl (cA, 48, .inl (fun _ => 0))), (q11, .inl (cA, 48, .inl (fun _ => 0)))]) rfl dX10_init_1010 (q := 1013) rfl ?_
  refine h_aload_n X dX10_init_1013 (q := 1014) rfl 0 rfl ?_
  refine h_bipush X dX10_init_1014 (q := 1016) rfl li_b48 ?_
  refine h_newa X (by decide) (N := 48) (by decide) (Nat.le_of_ble_eq_true rfl) (Nat.le_of_ble_eq_true rfl) (Nat.le_of_ble_eq_true rfl) (ce2 := 12) (sl2 := 4520) rfl rfl dX10_init_1016 (q := 1018) rfl (fun q12 => ?_)
  refine h_ws (ws' := [(a, .inr (10, [.int 0, .ref q1, .ref q2, .int 0, .ref q3, .int 0, .int 0, .int 0, .int 0, .ref q4, .ref q5, .ref q6, .int 0, .int 0, .int 0, .int 0, .int 0, .ref q7, .ref q8, .ref q9, .ref q10, .ref q11, .null, .null, .null, .int 0, .int 0, .int 0, .null, .int 0, .int 0, .int 0, .int 0, .int 0, .int 0, .null, .int 0, .null, .int 0, .int 0, .int 0, .null, .int 0, .null, .null, .null, .int 0, .null, .int 0, .int 0, .int 0, .int 0, .int 0, .null])), (q1, .inl (cA, 389, .inl (fun _ => 0))), (q2, .inl (cA, 2334, .inl (fun _ => 0))), (q3, .inl (cA, 389, .inl (fun _ => 0))), (q4, .inl (cA, 64, .inl (fun _ => 0))), (q5, .inl (cA, 600, .inl (fun _ => 0))), (q6, .inl (cA, 400, .inl (fun _ => 0))), (q7, .inl (cA, 150, .inl (wf 150))), (q8, .inl (cA, 2, .inl (fun _ => 0))), (q9, .inl (cA, 48, .inl (fun _ => 0))), (q10, .inl (cA, 48, .inl (fun _ => 0))), (q11, .inl (cA, 48, .inl (fun _ => 0))), (q12, .inl (cA, 48, .inl (fun _ => 0)))]) rfl ?_
  refine h_putF X 0 10 rfl rfl inX10 22 (Nat.le_of_ble_eq_true rfl) rfl (gt_of 1306 (by decide +kernel) rfl) tyX10 tyX10_ok nmX10 rfl rfl (ty := (.array .int)) rfl rfl rfl (Nat.le_of_ble_eq_true rfl) (ws' := [(a, .inr (10, [.int 0, .ref q1, .ref q2, .int 0, .ref q3, .int 0, .int 0, .int 0, .int 0, .ref q4, .ref q5, .ref q6, .int 0, .int 0, .int 0, .int 0, .int 0, .ref q7, .ref q8, .ref q9, .ref q10, .ref q11, .ref q12, .null, .null, .int 0, .int 0, .int 0, .null, .int 0, .int 0, .int 0, .int 0, .int 0, .int 0, .null, .int 0, .null, .int 0, .int 0, .int 0, .null, .int 0, .null, .null, .null, .int 0, .null, .int 0, .int 0, .int 0, .int 0, .int 0, .null])), (q1, .inl (cA, 389, .inl (fun _ => 0))), (q2, .inl (cA, 2334, .inl (fun _ => 0))), (q3, .inl (cA, 389, .inl (fun _ => 0))), (q4, .inl (cA, 64, .inl (fun _ => 0))), (q5, .inl (cA, 600, .inl (fun _ => 0))), (q6, .inl (cA, 400, .inl (fun _ => 0))), (q7, .inl (cA, 150, .inl (wf 150))), (q8, .inl (cA, 2, .inl (fun _ => 0))), (q9, .inl (cA, 48, .inl (fun _ => 0))), (q10, .inl (cA, 48, .inl (fun _ => 0))), (q11, .inl (cA, 48, .inl (fun _ => 0))), (q12, .inl (cA, 48, .inl (fun _ => 0)))]) rfl dX10_init_1018 (q := 1021) rfl ?_
  refine h_aload_n X dX10_init_1021 (q := 1022) rfl 0 rfl ?_
  refine h_sipush X dX10_init_1022 (q := 1025) rfl li_s1200 ?_
  refine h_newa X (by decide) (N := 1200) (by decide) (Nat.le_of_ble_eq_true rfl) (Nat.le_of_ble_eq_true rfl) (Nat.le_of_ble_eq_true rfl) (ce2 := 13) (sl2 := 5720) rfl rfl dX10_init_1025 (q := 1027) rfl (fun q13 => ?_)
  refine h_ws (ws' := [(a, .inr (10, [.int 0, .ref q1, .ref q2, .int 0, .ref q3, .int 0, .int 0, .int 0, .int 0, .ref q4, .ref q5, .ref q6, .int 0, .int 0, .int 0, .int 0, .int 0, .ref q7, .ref q8, .ref q9, .ref q10, .ref q11, .ref q12, .null, .null, .int 0, .int 0, .int 0, .null, .int 0, .int 0, .int 0, .int 0, .int 0, .int 0, .null, .int 0, .null, .int 0, .int 0, .int 0, .null, .int 0, .null, .null, .null, .int 0, .null, .int 0, .int 0, .int 0, .int 0, .int 0, .null])), (q1, .inl (cA, 389, .inl (fun _ => 0))), (q2, .inl (cA, 2334, .inl (fun _ => 0))), (q3, .inl (cA, 389, .inl (fun _ => 0))), (q4, .inl (cA, 64, .inl (fun _ => 0))), (q5, .inl (cA, 600, .inl (fun _ => 0))), (q6, .inl (cA, 400, .inl (fun _ => 0))), (q7, .inl (cA, 150, .inl (wf 150))), (q8, .inl (cA, 2, .inl (fun _ => 0))), (q9, .inl (cA, 48, .inl (fun _ => 0))), (q10, .inl (cA, 48, .inl (fun _ => 0))), (q11, .inl (cA, 48, .inl (fun _ => 0))), (q12, .inl (cA, 48, .inl (fun _ => 0))), (q13, .inl (cA, 1200, .inl (fun _ => 0)))]) rfl ?_
  refine h_putF X 0 10 rfl rfl inX10 23 (Nat.le_of_ble_eq_true rfl) rfl (gt_of 1307 (by decide +kernel) rfl) tyX10 tyX10_ok nmX10 rfl rfl (ty := (.array .int)) rfl rfl rfl (Nat.le_of_ble_eq_true rfl) (ws' := [(a, .inr (10, [.int 0, .ref q1, .ref q2, .int 0, .ref q3, .int 0, .int 0, .int 0, .int 0, .ref q4, .ref q5, .ref q6, .int 0, .int 0, .int 0, .int 0, .int 0, .ref q7, .ref q8, .ref q9, .ref q10, .ref q11, .ref q12, .ref q13, .null, .int 0, .int 0, .int 0, .null, .int 0, .int 0, .int 0, .int 0, .int 0, .int 0, .null, .int 0, .null, .int 0, .int 0, .int 0, .null, .int 0, .null, .null, .null, .int 0, .null, .int 0, .int 0, .int 0, .int 0, .int 0, .null])), (q1, .inl (cA, 389, .inl (fun _ => 0))), (q2, .inl (cA, 2334, .inl (fun _ => 0))), (q3, .inl (cA, 389, .inl (fun _ => 0))), (q4, .inl (cA, 64, .inl (fun _ => 0))), (q5, .inl (cA, 600, .inl (fun _ => 0))), (q6, .inl (cA, 400, .inl (fun _ => 0))), (q7, .inl (cA, 150, .inl (wf 150))), (q8, .inl (cA, 2, .inl (fun _ => 0))), (q9, .inl (cA, 48, .inl (fun _ => 0))), (q10, .inl (cA, 48, .inl (fun _ => 0))), (q11, .inl (cA, 48, .inl (fun _ => 0))), (q12, .inl (cA, 48, .inl (fun _ => 0))), (q13, .inl (cA, 1200, .inl (fun _ => 0)))]) rfl dX10_init_1027 (q := 1030) rfl ?_
  refine h_aload_n X dX10_init_1030 (q := 1031) rfl 0 rfl ?_
  refine h_sipush X dX10_init_1031 (q := 1034) rfl li_s1200 ?_
  refine h_newa X (by decide) (N := 1200) (by decide) (Nat.le_of_ble_eq_true rfl) (Nat.le_of_ble_eq_true rfl) (Nat.le_of_ble_eq_true rfl) (ce2 := 14) (sl2 := 6920) rfl rfl dX10_init_1034 (q := 1036) rfl (fun q14 => ?_)
  refine h_ws (ws' := [(a, .inr (10, [.int 0, .ref q1, .ref q2, .int 0, .ref q3, .int 0, .int 0, .int 0, .int 0, .ref q4, .ref q5, .ref q6, .int 0, .int 0, .int 0, .int 0, .int 0, .ref q7, .ref q8, .ref q9, .ref q10, .ref q11, .ref q12, .ref q13, .null, .int 0, .int 0, .int 0, .null, .int 0, .int 0, .int 0, .int 0, .int 0, .int 0, .null, .int 0, .null, .int 0, .int 0, .int 0, .null, .int 0, .null, .null, .null, .int 0, .null, .int 0, .int 0, .int 0, .int 0, .int 0, .null])), (q1, .inl (cA, 389, .inl (fun _ => 0))), (q2, .inl (cA, 2334, .inl (fun _ => 0))), (q3, .inl (cA, 389, .inl (fun _ => 0))), (q4, .inl (cA, 64, .inl (fun _ => 0))), (q5, .inl (cA, 600, .inl (fun _ => 0))), (q6, .inl (cA, 400, .inl (fun _ => 0))), (q7, .inl (cA, 150, .inl (wf 150))), (q8, .inl (cA, 2, .inl (fun _ => 0))), (q9, .inl (cA, 48, .inl (fun _ => 0))), (q10, .inl (cA, 48, .inl (fun _ => 0))), (q11, .inl (cA, 48, .inl (fun _ => 0))), (q12, .inl (cA, 48, .inl (fun _ => 0))), (q13, .inl (cA, 1200, .inl (fun _ => 0))), (q14, .inl (cA, 1200, .inl (fun _ => 0)))]) rfl ?_
  refine h_putF X 0 10 rfl rfl inX10 24 (Nat.le_of_ble_eq_true rfl) rfl (gt_of 1308 (by decide +kernel) rfl) tyX10 tyX10_ok nmX10 rfl rfl (ty := (.array .int)) rfl rfl rfl (Nat.le_of_ble_eq_true rfl) (ws' := [(a, .inr (10, [.int 0, .ref q1, .ref q2, .int 0, .ref q3, .int 0, .int 0, .int 0, .int 0, .ref q4, .ref q5, .ref q6, .int 0, .int 0, .int 0, .int 0, .int 0, .ref q7, .ref q8, .ref q9, .ref q10, .ref q11, .ref q12, .ref q13, .ref q14, .int 0, .int 0, .int 0, .null, .int 0, .int 0, .int 0, .int 0, .int 0, .int 0, .null, .int 0, .null, .int 0, .int 0, .int 0, .null, .int 0, .null, .null, .null, .int 0, .null, .int 0, .int 0, .int 0, .int 0, .int 0, .null])), (q1, .inl (cA, 389, .inl (fun _ => 0))), (q2, .inl (cA, 2334, .inl (fun _ => 0))), (q3, .inl (cA, 389, .inl (fun _ => 0))), (q4, .inl (cA, 64, .inl (fun _ => 0))), (q5, .inl (cA, 600, .inl (fun _ => 0))), (q6, .inl (cA, 400, .inl (fun _ => 0))), (q7, .inl (cA, 150, .inl (wf 150))), (q8, .inl (cA, 2, .inl (fun _ => 0))), (q9, .inl (cA, 48, .inl (fun _ => 0))), (q10, .inl (cA, 48, .inl (fun _ => 0))), (q11, .inl (cA, 48, .inl (fun _ => 0))), (q12, .inl (cA, 48, .inl (fun _ => 0))), (q13, .inl (cA, 1200, .inl (fun _ => 0))), (q14, .inl (cA, 1200, .inl (fun _ => 0)))]) rfl dX10_init_1036 (q := 1039) rfl ?_
  refine h_aload_n X dX10_init_1039 (q := 1040) rfl 0 rfl ?_
  refine h_bipush X dX10_init_1040 (q := 1042) rfl li_b40 ?_
  refine h_newa X (by decide) (N := 40) (by decide) (Nat.le_of_ble_eq_true rfl) (Nat.le_of_ble_eq_true rfl) (Nat.le_of_ble_eq_true rfl) (ce2 := 15) (sl2 := 6960) rfl rfl dX10_init_1042 (q := 1044) rfl (fun q15 => ?_)
  refine h_ws (ws' := [(a, .inr (10, [.int 0, .ref q1, .ref q2, .int 0, .ref q3, .int 0, .int 0, .int 0, .int 0, .ref q4, .ref q5, .ref q6, .int 0, .int 0, .int 0, .int 0, .int 0, .ref q7, .ref q8, .ref q9, .ref q10, .ref q11, .ref q12, .ref q13, .ref q14, .int 0, .int 0, .int 0, .null, .int 0, .int 0, .int 0, .int 0, .int 0, .int 0, .null, .int 0, .null, .int 0, .int 0, .int 0, .null, .int 0, .null, .null, .null, .int 0, .null, .int 0, .int 0, .int 0, .int 0, .int 0, .null])), (q1, .inl (cA, 389, .inl (fun _ => 0))), (q2, .inl (cA, 2334, .inl (fun _ => 0))), (q3, .inl (cA, 389, .inl (fun _ => 0))), (q4, .inl (cA, 64, .inl (fun _ => 0))), (q5, .inl (cA, 600, .inl (fun _ => 0))), (q6, .inl (cA, 400, .inl (fun _ => 0))), (q7, .inl (cA, 150, .inl (wf 150))), (q8, .inl (cA, 2, .inl (fun _ => 0))), (q9, .inl (cA, 48, .inl (fun _ => 0))), (q10, .inl (cA, 48, .inl (fun _ => 0))), (q11, .inl (cA, 48, .inl (fun _ => 0))), (q12, .inl (cA, 48, .inl (fun _ => 0))), (q13, .inl (cA, 1200, .inl (fun _ => 0))), (q14, .inl (cA, 1200, .inl (fun _ => 0))), (q15, .inl (cA, 40, .inl (fun _ => 0)))]) rfl ?_
  refine h_putF X 0 10 rfl rfl inX10 28 (Nat.le_of_ble_eq_true rfl) rfl (gt_of 1312 (by decide +kernel) rfl) tyX10 tyX10_ok nmX10 rfl rfl (ty := (.array .int)) rfl rfl rfl (Nat.le_of_ble_eq_true rfl) (ws' := [(a, .inr (10, [.int 0, .ref q1, .ref q2, .int 0, .ref q3, .int 0, .int 0, .int 0, .int 0, .ref q4, .ref q5, .ref q6, .int 0, .int 0, .int 0, .int 0, .int 0, .ref q7, .ref q8, .ref q9, .ref q10, .ref q11, .ref q12, .ref q13, .ref q14, .int 0, .int 0, .int 0, .ref q15, .int 0, .int 0, .int 0, .int 0, .int 0, .int 0, .null, .int 0, .null, .int 0, .int 0, .int 0, .null, .int 0, .null, .null, .null, .int 0, .null, .int 0, .int 0, .int 0, .int 0, .int 0, .null])), (q1, .inl (cA, 389, .inl (fun _ => 0))), (q2, .inl (cA, 2334, .inl (fun _ => 0))), (q3, .inl (cA, 389, .inl (fun _ => 0))), (q4, .inl (cA, 64, .inl (fun _ => 0))), (q5, .inl (cA, 600, .inl (fun _ => 0))), (q6, .inl (cA, 400, .inl (fun _ => 0))), (q7, .inl (cA, 150, .inl (wf 150))), (q8, .inl (cA, 2, .inl (fun _ => 0))), (q9, .inl (cA, 48, .inl (fun _ => 0))), (q10, .inl (cA, 48, .inl (fun _ => 0))), (q11, .inl (cA, 48, .inl (fun _ => 0))), (q12, .inl (cA, 48, .inl (fun _ => 0))), (q13, .inl (cA, 1200, .inl (fun _ => 0))), (q14, .inl (cA, 1200, .inl (fun _ => 0))), (q15, .inl (cA, 40, .inl (fun _ => 0)))]) rfl dX10_init_1044 (q := 1047) rfl ?_
  refine h_aload_n X dX10_init_1047 (q := 1048) rfl 0 rfl ?_
  refine h_iconst X dX10_init_1048 (q := 1049) rfl li_im1 ?_
  refine h_put X 0 10 rfl rfl inX10 33 (Nat.le_of_ble_eq_true rfl) rfl (gt_of 1317 (by decide +kernel) rfl) tyX10 tyX10_ok nmX10 rfl (ty := .int) rfl rfl rfl (Nat.le_of_ble_eq_true rfl) (ws' := [(a, .inr (10, [.int 0, .ref q1, .ref q2, .int 0, .ref q3, .int 0, .int 0, .int 0, .int 0, .ref q4, .ref q5, .ref q6, .int 0, .int 0, .int 0, .int 0, .int 0, .ref q7, .ref q8, .ref q9, .ref q10, .ref q11, .ref q12, .ref q13, .ref q14, .int 0, .int 0, .int 0, .ref q15, .int 0, .int 0, .int 0, .int 0, .int (-1 : Int32), .int 0, .null, .int 0, .null, .int 0, .int 0, .int 0, .null, .int 0, .null, .null, .null, .int 0, .null, .int 0, .int 0, .int 0, .int 0, .int 0, .null])), (q1, .inl (cA, 389, .inl (fun _ => 0))), (q2, .inl (cA, 2334, .inl (fun _ => 0))), (q3, .inl (cA, 389, .inl (fun _ => 0))), (q4, .inl (cA, 64, .inl (fun _ => 0))), (q5, .inl (cA, 600, .inl (fun _ => 0))), (q6, .inl (cA, 400, .inl (fun _ => 0))), (q7, .inl (cA, 150, .inl (wf 150))), (q8, .inl (cA, 2, .inl (fun _ => 0))), (q9, .inl (cA, 48, .inl (fun _ => 0))), (q10, .inl (cA, 48, .inl (fun _ => 0))), (q11, .inl (cA, 48, .inl (fun _ => 0))), (q12, .inl (cA, 48, .inl (fun _ => 0))), (q13, .inl (cA, 1200, .inl (fun _ => 0))), (q14, .inl (cA, 1200, .inl (fun _ => 0))), (q15, .inl (cA, 40, .inl (fun _ => 0)))]) rfl dX10_init_1049 (q := 1052) rfl ?_
  refine h_aload_n X dX10_init_1052 (q := 1053) rfl 0 rfl ?_
  refine h_bipush X dX10_init_1053 (q := 1055) rfl li_b48 ?_
  refine h_newa X (by decide) (N := 48) (by decide) (Nat.le_of_ble_eq_true rfl) (Nat.le_of_ble_eq_true rfl) (Nat.le_of_ble_eq_true rfl) (ce2 := 16) (sl2 := 7008) rfl rfl dX10_init_1055 (q := 1057) rfl (fun q16 => ?_)
  refine h_ws (ws' := [(a, .inr (10, [.int 0, .ref q1, .ref q2, .int 0, .ref q3, .int 0, .int 0, .int 0, .int 0, .ref q4, .ref q5, .ref q6, .int 0, .int 0, .int 0, .int 0, .int 0, .ref q7, .ref q8, .ref q9, .ref q10, .ref q11, .ref q12, .ref q13, .ref q14, .int 0, .int 0, .int 0, .ref q15, .int 0, .int 0, .int 0, .int 0, .int (-1 : Int32), .int 0, .null, .int 0, .null, .int 0, .int 0, .int 0, .null, .int 0, .null, .null, .null, .int 0, .null, .int 0, .int 0, .int 0, .int 0, .int 0, .null])), (q1, .inl (cA, 389, .inl (fun _ => 0))), (q2, .inl (cA, 2334, .inl (fun _ => 0))), (q3, .inl (cA, 389, .inl (fun _ => 0))), (q4, .inl (cA, 64, .inl (fun _ => 0))), (q5, .inl (cA, 600, .inl (fun _ => 0))), (q6, .inl (cA, 400, .inl (fun _ => 0))), (q7, .inl (cA, 150, .inl (wf 150))), (q8, .inl (cA, 2, .inl (fun _ => 0))), (q9, .inl (cA, 48, .inl (fun _ => 0))), (q10, .inl (cA, 48, .inl (fun _ => 0))), (q11, .inl (cA, 48, .inl (fun _ => 0))), (q12, .inl (cA, 48, .inl (fun _ => 0))), (q13, .inl (cA, 1200, .inl (fun _ => 0))), (q14, .inl (cA, 1200, .inl (fun _ => 0))), (q15, .inl (cA, 40, .inl (fun _ => 0))), (q16, .inl (cA, 48, .inl (fun _ => 0)))]) rfl ?_
  refine h_putF X 0 10 rfl rfl inX10 35 (Nat.le_of_ble_eq_true rfl) rfl (gt_of 1319 (by decide +kernel) rfl) tyX10 tyX10_ok nmX10 rfl rfl (ty := (.array .int)) rfl rfl rfl (Nat.le_of_ble_eq_true rfl) (ws' := [(a, .inr (10, [.int 0, .ref q1, .ref q2, .int 0, .ref q3, .int 0, .int 0, .int 0, .int 0, .ref q4, .ref q5, .ref q6, .int 0, .int 0, .int 0, .int 0, .int 0, .ref q7, .ref q8, .ref q9, .ref q10, .ref q11, .ref q12, .ref q13, .ref q14, .int 0, .int 0, .int 0, .ref q15, .int 0, .int 0, .int 0, .int 0, .int (-1 : Int32), .int 0, .ref q16, .int 0, .null, .int 0, .int 0, .int 0, .null, .int 0, .null, .null, .null, .int 0, .null, .int 0, .int 0, .int 0, .int 0, .int 0, .null])), (q1, .inl (cA, 389, .inl (fun _ => 0))), (q2, .inl (cA, 2334, .inl (fun _ => 0))), (q3, .inl (cA, 389, .inl (fun _ => 0))), (q4, .inl (cA, 64, .inl (fun _ => 0))), (q5, .inl (cA, 600, .inl (fun _ => 0))), (q6, .inl (cA, 400, .inl (fun _ => 0))), (q7, .inl (cA, 150, .inl (wf 150))), (q8, .inl (cA, 2, .inl (fun _ => 0))), (q9, .inl (cA, 48, .inl (fun _ => 0))), (q10, .inl (cA, 48, .inl (fun _ => 0))), (q11, .inl (cA, 48, .inl (fun _ => 0))), (q12, .inl (cA, 48, .inl (fun _ => 0))), (q13, .inl (cA, 1200, .inl (fun _ => 0))), (q14, .inl (cA, 1200, .inl (fun _ => 0))), (q15, .inl (cA, 40, .inl (fun _ => 0))), (q16, .inl (cA, 48, .inl (fun _ => 0)))]) rfl dX10_init_1057 (q := 1060) rfl ?_
  refine h_aload_n X dX10_init_1060 (q := 1061) rfl 0 rfl ?_
  refine h_bipush X dX10_init_1061 (q := 1063) rfl li_b60 ?_
  refine h_newa X (by decide) (N := 60) (by decide) (Nat.le_of_ble_eq_true rfl) (Nat.le_of_ble_eq_true rfl) (Nat.le_of_ble_eq_true rfl) (ce2 := 17) (sl2 := 7068) rfl rfl dX10_init_1063 (q := 1065) rfl (fun q17 => ?_)
  refine h_ws (ws' := [(a, .inr (10, [.int 0, .ref q1, .ref q2, .int 0, .ref q3, .int 0, .int 0, .int 0, .int 0, .ref q4, .ref q5, .ref q6, .int 0, .int 0, .int 0, .int 0, .int 0, .ref q7, .ref q8, .ref q9, .ref q10, .ref q11, .ref q12, .ref q13, .ref q14, .int 0, .int 0, .int 0, .ref q15, .int 0, .int 0, .int 0, .int 0, .int (-1 : Int32), .int 0, .ref q16, .int 0, .null, .int 0, .int 0, .int 0, .null, .int 0, .null, .null, .null, .int 0, .null, .int 0, .int 0, .int 0, .int 0, .int 0, .null])), (q1, .inl (cA, 389, .inl (fun _ => 0))), (q2, .inl (cA, 2334, .inl (fun _ => 0))), (q3, .inl (cA, 389, .inl (fun _ => 0))), (q4, .inl (cA, 64, .inl (fun _ => 0))), (q5, .inl (cA, 600, .inl (fun _ => 0))), (q6, .inl (cA, 400, .inl (fun _ => 0))), (q7, .inl (cA, 150, .inl (wf 150))), (q8, .inl (cA, 2, .inl (fun _ => 0))), (q9, .inl (cA, 48, .inl (fun _ => 0))), (q10, .inl (cA, 48, .inl (fun _ => 0))), (q11, .inl (cA, 48, .inl (fun _ => 0))), (q12, .inl (cA, 48, .inl (fun _ => 0))), (q13, .inl (cA, 1200, .inl (fun _ => 0))), (q14, .inl (cA, 1200, .inl (fun _ => 0))), (q15, .inl (cA, 40, .inl (fun _ => 0))), (q16, .inl (cA, 48, .inl (fun _ => 0))), (q17, .inl (cA, 60, .inl (fun _ => 0)))]) rfl ?_
  refine h_putF X 0 10 rfl rfl inX10 37 (Nat.le_of_ble_eq_true rfl) rfl (gt_of 1321 (by decide +kernel) rfl) tyX10 tyX10_ok nmX10 rfl rfl (ty := (.array .int)) rfl rfl rfl (Nat.le_of_ble_eq_true rfl) (ws' := [(a, .inr (10, [.int 0, .ref q1, .ref q2, .int 0, .ref q3, .int 0, .int 0, .int 0, .int 0, .ref q4, .ref q5, .ref q6, .int 0, .int 0, .int 0, .int 0, .int 0, .ref q7, .ref q8, .ref q9, .ref q10, .ref q11, .ref q12, .ref q13, .ref q14, .int 0, .int 0, .int 0, .ref q15, .int 0, .int 0, .int 0, .int 0, .int (-1 : Int32), .int 0, .ref q16, .int 0, .ref q17, .int 0, .int 0, .int 0, .null, .int 0, .null, .null, .null, .int 0, .null, .int 0, .int 0, .int 0, .int 0, .int 0, .null])), (q1, .inl (cA, 389, .inl (fun _ => 0))), (q2, .inl (cA, 2334, .inl (fun _ => 0))), (q3, .inl (cA, 389, .inl (fun _ => 0))), (q4, .inl (cA, 64, .inl (fun _ => 0))), (q5, .inl (cA, 600, .inl (fun _ => 0))), (q6, .inl (cA, 400, .inl (fun _ => 0))), (q7, .inl (cA, 150, .inl (wf 150))), (q8, .inl (cA, 2, .inl (fun _ => 0))), (q9, .inl (cA, 48, .inl (fun _ => 0))), (q10, .inl (cA, 48, .inl (fun _ => 0))), (q11, .inl (cA, 48, .inl (fun _ => 0))), (q12, .inl (cA, 48, .inl (fun _ => 0))), (q13, .inl (cA, 1200, .inl (fun _ => 0))), (q14, .inl (cA, 1200, .inl (fun _ => 0))), (q15, .inl (cA, 40, .inl (fun _ => 0))), (q16, .inl (cA, 48, .inl (fun _ => 0))), (q17, .inl (cA, 60, .inl (fun _ => 0)))]) rfl dX10_init_1065 (q := 1068) rfl ?_
  refine h_aload_n X dX10_init_1068 (q := 1069) rfl 0 rfl ?_
  refine h_bipush X dX10_init_1069 (q := 1071) rfl li_b80 ?_
  refine h_newa X (by decide) (N := 80) (by decide) (Nat.le_of_ble_eq_true rfl) (Nat.le_of_ble_eq_true rfl) (Nat.le_of_ble_eq_true rfl) (ce2 := 18) (sl2 := 7148) rfl rfl dX10_init_1071 (q := 1073) rfl (fun q18 => ?_)
  refine h_ws (ws' := [(a, .inr (10, [.int 0, .ref q1, .ref q2, .int 0, .ref q3, .int 0, .int 0, .int 0, .int 0, .ref q4, .ref q5, .ref q6, .int 0, .int 0, .int 0, .int 0, .int 0, .ref q7, .ref q8, .ref q9, .ref q10, .ref q11, .ref q12, .ref q13, .ref q14, .int 0, .int 0, .int 0, .ref q15, .int 0, .int 0, .int 0, .int 0, .int (-1 : Int32), .int 0, .ref q16, .int 0, .ref q17, .int 0, .int 0, .int 0, .null, .int 0, .null, .null, .null, .int 0, .null, .int 0, .int 0, .int 0, .int 0, .int 0, .null])), (q1, .inl (cA, 389, .inl (fun _ => 0))), (q2, .inl (cA, 2334, .inl (fun _ => 0))), (q3, .inl (cA, 389, .inl (fun _ => 0))), (q4, .inl (cA, 64, .inl (fun _ => 0))), (q5, .inl (cA, 600, .inl (fun _ => 0))), (q6, .inl (cA, 400, .inl (fun _ => 0))), (q7, .inl (cA, 150, .inl (wf 150))), (q8, .inl (cA, 2, .inl (fun _ => 0))), (q9, .inl (cA, 48, .inl (fun _ => 0))), (q10, .inl (cA, 48, .inl (fun _ => 0))), (q11, .inl (cA, 48, .inl (fun _ => 0))), (q12, .inl (cA, 48, .inl (fun _ => 0))), (q13, .inl (cA, 1200, .inl (fun _ => 0))), (q14, .inl (cA, 1200, .inl (fun _ => 0))), (q15, .inl (cA, 40, .inl (fun _ => 0))), (q16, .inl (cA, 48, .inl (fun _ => 0))), (q17, .inl (cA, 60, .inl (fun _ => 0))), (q18, .inl (cA, 80, .inl (fun _ => 0)))]) rfl ?_
  refine h_putF X 0 10 rfl rfl inX10 41 (Nat.le_of_ble_eq_true rfl) rfl (gt_of 1325 (by decide +kernel) rfl) tyX10 tyX10_ok nmX10 rfl rfl (ty := (.array .int)) rfl rfl rfl (Nat.le_of_ble_eq_true rfl) (ws' := [(a, .inr (10, [.int 0, .ref q1, .ref q2, .int 0, .ref q3, .int 0, .int 0, .int 0, .int 0, .ref q4, .ref q5, .ref q6, .int 0, .int 0, .int 0, .int 0, .int 0, .ref q7, .ref q8, .ref q9, .ref q10, .ref q11, .ref q12, .ref q13, .ref q14, .int 0, .int 0, .int 0, .ref q15, .int 0, .int 0, .int 0, .int 0, .int (-1 : Int32), .int 0, .ref q16, .int 0, .ref q17, .int 0, .int 0, .int 0, .ref q18, .int 0, .null, .null, .null, .int 0, .null, .int 0, .int 0, .int 0, .int 0, .int 0, .null])), (q1, .inl (cA, 389, .inl (fun _ => 0))), (q2, .inl (cA, 2334, .inl (fun _ => 0))), (q3, .inl (cA, 389, .inl (fun _ => 0))), (q4, .inl (cA, 64, .inl (fun _ => 0))), (q5, .inl (cA, 600, .inl (fun _ => 0))), (q6, .inl (cA, 400, .inl (fun _ => 0))), (q7, .inl (cA, 150, .inl (wf 150))), (q8, .inl (cA, 2, .inl (fun _ => 0))), (q9, .inl (cA, 48, .inl (fun _ => 0))), (q10, .inl (cA, 48, .inl (fun _ => 0))), (q11, .inl (cA, 48, .inl (fun _ => 0))), (q12, .inl (cA, 48, .inl (fun _ => 0))), (q13, .inl (cA, 1200, .inl (fun _ => 0))), (q14, .inl (cA, 1200, .inl (fun _ => 0))), (q15, .inl (cA, 40, .inl (fun _ => 0))), (q16, .inl (cA, 48, .inl (fun _ => 0))), (q17, .inl (cA, 60, .inl (fun _ => 0))), (q18, .inl (cA, 80, .inl (fun _ => 0)))]) rfl dX10_init_1073 (q := 1076) rfl ?_
  refine h_aload_n X dX10_init_1076 (q := 1077) rfl 0 rfl ?_
  refine h_sipush X dX10_init_1077 (q := 1080) rfl li_s128 ?_
  refine h_newa X (by decide) (N := 128) (by decide) (Nat.le_of_ble_eq_true rfl) (Nat.le_of_ble_eq_true rfl) (Nat.le_of_ble_eq_true rfl) (ce2 := 19) (sl2 := 7276) rfl rfl dX10_init_1080 (q := 1082) rfl (fun q19 => ?_)
  refine h_ws (ws' := [(a, .inr (10, [.int 0, .ref q1, .ref q2, .int 0, .ref q3, .int 0, .int 0, .int 0, .int 0, .ref q4, .ref q5, .ref q6, .int 0, .int 0, .int 0, .int 0, .int 0, .ref q7, .ref q8, .ref q9, .ref q10, .ref q11, .ref q12, .ref q13, .ref q14, .int 0, .int 0, .int 0, .ref q15, .int 0, .int 0, .int 0, .int 0, .int (-1 : Int32), .int 0, .ref q16, .int 0, .ref q17, .int 0, .int 0, .int 0, .ref q18, .int 0, .null, .null, .null, .int 0, .null, .int 0, .int 0, .int 0, .int 0, .int 0, .null])), (q1, .inl (cA, 389, .inl (fun _ => 0))), (q2, .inl (cA, 2334, .inl (fun _ => 0))), (q3, .inl (cA, 389, .inl (fun _ => 0))), (q4, .inl (cA, 64, .inl (fun _ => 0))), (q5, .inl (cA, 600, .inl (fun _ => 0))), (q6, .inl (cA, 400, .inl (fun _ => 0))), (q7, .inl (cA, 150, .inl (wf 150))), (q8, .inl (cA, 2, .inl (fun _ => 0))), (q9, .inl (cA, 48, .inl (fun _ => 0))), (q10, .inl (cA, 48, .inl (fun _ => 0))), (q11, .inl (cA, 48, .inl (fun _ => 0))), (q12, .inl (cA, 48, .inl (fun _ => 0))), (q13, .inl (cA, 1200, .inl (fun _ => 0))), (q14, .inl (cA, 1200, .inl (fun _ => 0))), (q15, .inl (cA, 40, .inl (fun _ => 0))), (q16, .inl (cA, 48, .inl (fun _ => 0))), (q17, .inl (cA, 60, .inl (fun _ => 0))), (q18, .inl (cA, 80, .inl (fun _ => 0))), (q19, .inl (cA, 128, .inl (fun _ => 0)))]) rfl ?_
  refine h_putF X 0 10 rfl rfl inX10 43 (Nat.le_of_ble_eq_true rfl) rfl (gt_of 1327 (by decide +kernel) rfl) tyX10 tyX10_ok nmX10 rfl rfl (ty := (.array .int)) rfl rfl rfl (Nat.le_of_ble_eq_true rfl) (ws' := [(a, .inr (10, [.int 0, .ref q1, .ref q2, .int 0, .ref q3, .int 0, .int 0, .int 0, .int 0, .ref q4, .ref q5, .ref q6, .int 0, .int 0, .int 0, .int 0, .int 0, .ref q7, .ref q8, .ref q9, .ref q10, .ref q11, .ref q12, .ref q13, .ref q14, .int 0, .int 0, .int 0, .ref q15, .int 0, .int 0, .int 0, .int 0, .int (-1 : Int32), .int 0, .ref q16, .int 0, .ref q17, .int 0, .int 0, .int 0, .ref q18, .int 0, .ref q19, .null, .null, .int 0, .null, .int 0, .int 0, .int 0, .int 0, .int 0, .null])), (q1, .inl (cA, 389, .inl (fun _ => 0))), (q2, .inl (cA, 2334, .inl (fun _ => 0))), (q3, .inl (cA, 389, .inl (fun _ => 0))), (q4, .inl (cA, 64, .inl (fun _ => 0))), (q5, .inl (cA, 600, .inl (fun _ => 0))), (q6, .inl (cA, 400, .inl (fun _ => 0))), (q7, .inl (cA, 150, .inl (wf 150))), (q8, .inl (cA, 2, .inl (fun _ => 0))), (q9, .inl (cA, 48, .inl (fun _ => 0))), (q10, .inl (cA, 48, .inl (fun _ => 0))), (q11, .inl (cA, 48, .inl (fun _ => 0))), (q12, .inl (cA, 48, .inl (fun _ => 0))), (q13, .inl (cA, 1200, .inl (fun _ => 0))), (q14, .inl (cA, 1200, .inl (fun _ => 0))), (q15, .inl (cA, 40, .inl (fun _ => 0))), (q16, .inl (cA, 48, .inl (fun _ => 0))), (q17, .inl (cA, 60, .inl (fun _ => 0))), (q18, .inl (cA, 80, .inl (fun _ => 0))), (q19, .inl (cA, 128, .inl (fun _ => 0)))]) rfl dX10_init_1082 (q := 1085) rfl ?_
  refine h_aload_n X dX10_init_1085 (q := 1086) rfl 0 rfl ?_
  refine h_bipush X dX10_init_1086 (q := 1088) rfl li_b8 ?_
  refine h_newa X (by decide) (N := 8) (by decide) (Nat.le_of_ble_eq_true rfl) (Nat.le_of_ble_eq_true rfl) (Nat.le_of_ble_eq_true rfl) (ce2 := 20) (sl2 := 7284) rfl rfl dX10_init_1088 (q := 1090) rfl (fun q20 => ?_)
  refine h_ws (ws' := [(a, .inr (10, [.int 0, .ref q1, .ref q2, .int 0, .ref q3, .int 0, .int 0, .int 0, .int 0, .ref q4, .ref q5, .ref q6, .int 0, .int 0, .int 0, .int 0, .int 0, .ref q7, .ref q8, .ref q9, .ref q10, .ref q11, .ref q12, .ref q13, .ref q14, .int 0, .int 0, .int 0, .ref q15, .int 0, .int 0, .int 0, .int 0, .int (-1 : Int32), .int 0, .ref q16, .int 0, .ref q17, .int 0, .int 0, .int 0, .ref q18, .int 0, .ref q19, .null, .null, .int 0, .null, .int 0, .int 0, .int 0, .int 0, .int 0, .null])), (q1, .inl (cA, 389, .inl (fun _ => 0))), (q2, .inl (cA, 2334, .inl (fun _ => 0))), (q3, .inl (cA, 389, .inl (fun _ => 0))), (q4, .inl (cA, 64, .inl (fun _ => 0))), (q5, .inl (cA, 600, .inl (fun _ => 0))), (q6, .inl (cA, 400, .inl (fun _ => 0))), (q7, .inl (cA, 150, .inl (wf 150))), (q8, .inl (cA, 2, .inl (fun _ => 0))), (q9, .inl (cA, 48, .inl (fun _ => 0))), (q10, .inl (cA, 48, .inl (fun _ => 0))), (q11, .inl (cA, 48, .inl (fun _ => 0))), (q12, .inl (cA, 48, .inl (fun _ => 0))), (q13, .inl (cA, 1200, .inl (fun _ => 0))), (q14, .inl (cA, 1200, .inl (fun _ => 0))), (q15, .inl (cA, 40, .inl (fun _ => 0))), (q16, .inl (cA, 48, .inl (fun _ => 0))), (q17, .inl (cA, 60, .inl (fun _ => 0))), (q18, .inl (cA, 80, .inl (fun _ => 0))), (q19, .inl (cA, 128, .inl (fun _ => 0))), (q20, .inl (cA, 8, .inl (fun _ => 0)))]) rfl ?_
  refine h_putF X 0 10 rfl rfl inX10 44 (Nat.le_of_ble_eq_true rfl) rfl (gt_of 1328 (by decide +kernel) rfl) tyX10 tyX10_ok nmX10 rfl rfl (ty := (.array .int)) rfl rfl rfl (Nat.le_of_ble_eq_true rfl) (ws' := [(a, .inr (10, [.int 0, .ref q1, .ref q2, .int 0, .ref q3, .int 0, .int 0, .int 0, .int 0, .ref q4, .ref q5, .ref q6, .int 0, .int 0, .int 0, .int 0, .int 0, .ref q7, .ref q8, .ref q9, .ref q10, .ref q11, .ref q12, .ref q13, .ref q14, .int 0, .int 0, .int 0, .ref q15, .int 0, .int 0, .int 0, .int 0, .int (-1 : Int32), .int 0, .ref q16, .int 0, .ref q17, .int 0, .int 0, .int 0, .ref q18, .int 0, .ref q19, .ref q20, .null, .int 0, .null, .int 0, .int 0, .int 0, .int 0, .int 0, .null])), (q1, .inl (cA, 389, .inl (fun _ => 0))), (q2, .inl (cA, 2334, .inl (fun _ => 0))), (q3, .inl (cA, 389, .inl (fun _ => 0))), (q4, .inl (cA, 64, .inl (fun _ => 0))), (q5, .inl (cA, 600, .inl (fun _ => 0))), (q6, .inl (cA, 400, .inl (fun _ => 0))), (q7, .inl (cA, 150, .inl (wf 150))), (q8, .inl (cA, 2, .inl (fun _ => 0))), (q9, .inl (cA, 48, .inl (fun _ => 0))), (q10, .inl (cA, 48, .inl (fun _ => 0))), (q11, .inl (cA, 48, .inl (fun _ => 0))), (q12, .inl (cA, 48, .inl (fun _ => 0))), (q13, .inl (cA, 1200, .inl (fun _ => 0))), (q14, .inl (cA, 1200, .inl (fun _ => 0))), (q15, .inl (cA, 40, .inl (fun _ => 0))), (q16, .inl (cA, 48, .inl (fun _ => 0))), (q17, .inl (cA, 60, .inl (fun _ => 0))), (q18, .inl (cA, 80, .inl (fun _ => 0))), (q19, .inl (cA, 128, .inl (fun _ => 0))), (q20, .inl (cA, 8, .inl (fun _ => 0)))]) rfl dX10_init_1090 (q := 1093) rfl ?_
  refine h_aload_n X dX10_init_1093 (q := 1094) rfl 0 rfl ?_
  refine h_sipush X dX10_init_1094 (q := 1097) rfl li_s420 ?_
  refine h_newa X (by decide) (N := 420) (by decide) (Nat.le_of_ble_eq_true rfl) (Nat.le_of_ble_eq_true rfl) (Nat.le_of_ble_eq_true rfl) (ce2 := 21) (sl2 := 7704) rfl rfl dX10_init_1097 (q := 1099) rfl (fun q21 => ?_)
  refine h_ws (ws' := [(a, .inr (10, [.int 0, .ref q1, .ref q2, .int 0, .ref q3, .int 0, .int 0, .int 0, .int 0, .ref q4, .ref q5, .ref q6, .int 0, .int 0, .int 0, .int 0, .int 0, .ref q7, .ref q8, .ref q9, .ref q10, .ref q11, .ref q12, .ref q13, .ref q14, .int 0, .int 0, .int 0, .ref q15, .int 0, .int 0, .int 0, .int 0, .int (-1 : Int32), .int 0, .ref q16, .int 0, .ref q17, .int 0, .int 0, .int 0, .ref q18, .int 0, .ref q19, .ref q20, .null, .int 0, .null, .int 0, .int 0, .int 0, .int 0, .int 0, .null])), (q1, .inl (cA, 389, .inl (fun _ => 0))), (q2, .inl (cA, 2334, .inl (fun _ => 0))), (q3, .inl (cA, 389, .inl (fun _ => 0))), (q4, .inl (cA, 64, .inl (fun _ => 0))), (q5, .inl (cA, 600, .inl (fun _ => 0))), (q6, .inl (cA, 400, .inl (fun _ => 0))), (q7, .inl (cA, 150, .inl (wf 150))), (q8, .inl (cA, 2, .inl (fun _ => 0))), (q9, .inl (cA, 48, .inl (fun _ => 0))), (q10, .inl (cA, 48, .inl (fun _ => 0))), (q11, .inl (cA, 48, .inl (fun _ => 0))), (q12, .inl (cA, 48, .inl (fun _ => 0))), (q13, .inl (cA, 1200, .inl (fun _ => 0))), (q14, .inl (cA, 1200, .inl (fun _ => 0))), (q15, .inl (cA, 40, .inl (fun _ => 0))), (q16, .inl (cA, 48, .inl (fun _ => 0))), (q17, .inl (cA, 60, .inl (fun _ => 0))), (q18, .inl (cA, 80, .inl (fun _ => 0))), (q19, .inl (cA, 128, .inl (fun _ => 0))), (q20, .inl (cA, 8, .inl (fun _ => 0))), (q21, .inl (cA, 420, .inl (fun _ => 0)))]) rfl ?_
  refine h_putF X 0 10 rfl rfl inX10 45 (Nat.le_of_ble_eq_true rfl) rfl (gt_of 1329 (by decide +kernel) rfl) tyX10 tyX10_ok nmX10 rfl rfl (ty := (.array .int)) rfl rfl rfl (Nat.le_of_ble_eq_true rfl) (ws' := [(a, .inr (10, [.int 0, .ref q1, .ref q2, .int 0, .ref q3, .int 0, .int 0, .int 0, .int 0, .ref q4, .ref q5, .ref q6, .int 0, .int 0, .int 0, .int 0, .int 0, .ref q7, .ref q8, .ref q9, .ref q10, .ref q11, .ref q12, .ref q13, .ref q14, .int 0, .int 0, .int 0, .ref q15, .int 0, .int 0, .int 0, .int 0, .int (-1 : Int32), .int 0, .ref q16, .int 0, .ref q17, .int 0, .int 0, .int 0, .ref q18, .int 0, .ref q19, .ref q20, .ref q21, .int 0, .null, .int 0, .int 0, .int 0, .int 0, .int 0, .null])), (q1, .inl (cA, 389, .inl (fun _ => 0))), (q2, .inl (cA, 2334, .inl (fun _ => 0))), (q3, .inl (cA, 389, .inl (fun _ => 0))), (q4, .inl (cA, 64, .inl (fun _ => 0))), (q5, .inl (cA, 600, .inl (fun _ => 0))), (q6, .inl (cA, 400, .inl (fun _ => 0))), (q7, .inl (cA, 150, .inl (wf 150))), (q8, .inl (cA, 2, .inl (fun _ => 0))), (q9, .inl (cA, 48, .inl (fun _ => 0))), (q10, .inl (cA, 48, .inl (fun _ => 0))), (q11, .inl (cA, 48, .inl (fun _ => 0))), (q12, .inl (cA, 48, .inl (fun _ => 0))), (q13, .inl (cA, 1200, .inl (fun _ => 0))), (q14, .inl (cA, 1200, .inl (fun _ => 0))), (q15, .inl (cA, 40, .inl (fun _ => 0))), (q16, .inl (cA, 48, .inl (fun _ => 0))), (q17, .inl (cA, 60, .inl (fun _ => 0))), (q18, .inl (cA, 80, .inl (fun _ => 0))), (q19, .inl (cA, 128, .inl (fun _ => 0))), (q20, .inl (cA, 8, .inl (fun _ => 0))), (q21, .inl (cA, 420, .inl (fun _ => 0)))]) rfl dX10_init_1099 (q := 1102) rfl ?_
  refine h_aload_n X dX10_init_1102 (q := 1103) rfl 0 rfl ?_
  refine h_bipush X dX10_init_1103 (q := 1105) rfl li_b10 ?_
  refine h_newa X (by decide) (N := 10) (by decide) (Nat.le_of_ble_eq_true rfl) (Nat.le_of_ble_eq_true rfl) (Nat.le_of_ble_eq_true rfl) (ce2 := 22) (sl2 := 7714) rfl rfl dX10_init_1105 (q := 1107) rfl (fun q22 => ?_)
  refine h_ws (ws' := [(a, .inr (10, [.int 0, .ref q1, .ref q2, .int 0, .ref q3, .int 0, .int 0, .int 0, .int 0, .ref q4, .ref q5, .ref q6, .int 0, .int 0, .int 0, .int 0, .int 0, .ref q7, .ref q8, .ref q9, .ref q10, .ref q11, .ref q12, .ref q13, .ref q14, .int 0, .int 0, .int 0, .ref q15, .int 0, .int 0, .int 0, .int 0, .int (-1 : Int32), .int 0, .ref q16, .int 0, .ref q17, .int 0, .int 0, .int 0, .ref q18, .int 0, .ref q19, .ref q20, .ref q21, .int 0, .null, .int 0, .int 0, .int 0, .int 0, .int 0, .null])), (q1, .inl (cA, 389, .inl (fun _ => 0))), (q2, .inl (cA, 2334, .inl (fun _ => 0))), (q3, .inl (cA, 389, .inl (fun _ => 0))), (q4, .inl (cA, 64, .inl (fun _ => 0))), (q5, .inl (cA, 600, .inl (fun _ => 0))), (q6, .inl (cA, 400, .inl (fun _ => 0))), (q7, .inl (cA, 150, .inl (wf 150))), (q8, .inl (cA, 2, .inl (fun _ => 0))), (q9, .inl (cA, 48, .inl (fun _ => 0))), (q10, .inl (cA, 48, .inl (fun _ => 0))), (q11, .inl (cA, 48, .inl (fun _ => 0))), (q12, .inl (cA, 48, .inl (fun _ => 0))), (q13, .inl (cA, 1200, .inl (fun _ => 0))), (q14, .inl (cA, 1200, .inl (fun _ => 0))), (q15, .inl (cA, 40, .inl (fun _ => 0))), (q16, .inl (cA, 48, .inl (fun _ => 0))), (q17, .inl (cA, 60, .inl (fun _ => 0))), (q18, .inl (cA, 80, .inl (fun _ => 0))), (q19, .inl (cA, 128, .inl (fun _ => 0))), (q20, .inl (cA, 8, .inl (fun _ => 0))), (q21, .inl (cA, 420, .inl (fun _ => 0))), (q22, .inl (cA, 10, .inl (fun _ => 0)))]) rfl ?_
  refine h_putF X 0 10 rfl rfl inX10 47 (Nat.le_of_ble_eq_true rfl) rfl (gt_of 1331 (by decide +kernel) rfl) tyX10 tyX10_ok nmX10 rfl rfl (ty := (.array .int)) rfl rfl rfl (Nat.le_of_ble_eq_true rfl) (ws' := [(a, .inr (10, [.int 0, .ref q1, .ref q2, .int 0, .ref q3, .int 0, .int 0, .int 0, .int 0, .ref q4, .ref q5, .ref q6, .int 0, .int 0, .int 0, .int 0, .int 0, .ref q7, .ref q8, .ref q9, .ref q10, .ref q11, .ref q12, .ref q13, .ref q14, .int 0, .int 0, .int 0, .ref q15, .int 0, .int 0, .int 0, .int 0, .int (-1 : Int32), .int 0, .ref q16, .int 0, .ref q17, .int 0, .int 0, .int 0, .ref q18, .int 0, .ref q19, .ref q20, .ref q21, .int 0, .ref q22, .int 0, .int 0, .int 0, .int 0, .int 0, .null])), (q1, .inl (cA, 389, .inl (fun _ => 0))), (q2, .inl (cA, 2334, .inl (fun _ => 0))), (q3, .inl (cA, 389, .inl (fun _ => 0))), (q4, .inl (cA, 64, .inl (fun _ => 0))), (q5, .inl (cA, 600, .inl (fun _ => 0))), (q6, .inl (cA, 400, .inl (fun _ => 0))), (q7, .inl (cA, 150, .inl (wf 150))), (q8, .inl (cA, 2, .inl (fun _ => 0))), (q9, .inl (cA, 48, .inl (fun _ => 0))), (q10, .inl (cA, 48, .inl (fun _ => 0))), (q11, .inl (cA, 48, .inl (fun _ => 0))), (q12, .inl (cA, 48, .inl (fun _ => 0))), (q13, .inl (cA, 1200, .inl (fun _ => 0))), (q14, .inl (cA, 1200, .inl (fun _ => 0))), (q15, .inl (cA, 40, .inl (fun _ => 0))), (q16, .inl (cA, 48, .inl (fun _ => 0))), (q17, .inl (cA, 60, .inl (fun _ => 0))), (q18, .inl (cA, 80, .inl (fun _ => 0))), (q19, .inl (cA, 128, .inl (fun _ => 0))), (q20, .inl (cA, 8, .inl (fun _ => 0))), (q21, .inl (cA, 420, .inl (fun _ => 0))), (q22, .inl (cA, 10, .inl (fun _ => 0)))]) rfl dX10_init_1107 (q := 1110) rfl ?_
  refine h_aload_n X dX10_init_1110 (q := 1111) rfl 0 rfl ?_
  refine h_sipush X dX10_init_1111 (q := 1114) rfl li_s2300 ?_
  refine h_newa X (by decide) (N := 2300) (by decide) (Nat.le_of_ble_eq_true rfl) (Nat.le_of_ble_eq_true rfl) (Nat.le_of_ble_eq_true rfl) (ce2 := 23) (sl2 := 10014) rfl rfl dX10_init_1114 (q := 1116) rfl (fun q23 => ?_)
  refine h_ws (ws' := [(a, .inr (10, [.int 0, .ref q1, .ref q2, .int 0, .ref q3, .int 0, .int 0, .int 0, .int 0, .ref q4, .ref q5, .ref q6, .int 0, .int 0, .int 0, .int 0, .int 0, .ref q7, .ref q8, .ref q9, .ref q10, .ref q11, .ref q12, .ref q13, .ref q14, .int 0, .int 0, .int 0, .ref q15, .int 0, .int 0, .int 0, .int 0, .int (-1 : Int32), .int 0, .ref q16, .int 0, .ref q17, .int 0, .int 0, .int 0, .ref q18, .int 0, .ref q19, .ref q20, .ref q21, .int 0, .ref q22, .int 0, .int 0, .int 0, .int 0, .int 0, .null])), (q1, .inl (cA, 389, .inl (fun _ => 0))), (q2, .inl (cA, 2334, .inl (fun _ => 0))), (q3, .inl (cA, 389, .inl (fun _ => 0))), (q4, .inl (cA, 64, .inl (fun _ => 0))), (q5, .inl (cA, 600, .inl (fun _ => 0))), (q6, .inl (cA, 400, .inl (fun _ => 0))), (q7, .inl (cA, 150, .inl (wf 150))), (q8, .inl (cA, 2, .inl (fun _ => 0))), (q9, .inl (cA, 48, .inl (fun _ => 0))), (q10, .inl (cA, 48, .inl (fun _ => 0))), (q11, .inl (cA, 48, .inl (fun _ => 0))), (q12, .inl (cA, 48, .inl (fun _ => 0))), (q13, .inl (cA, 1200, .inl (fun _ => 0))), (q14, .inl (cA, 1200, .inl (fun _ => 0))), (q15, .inl (cA, 40, .inl (fun _ => 0))), (q16, .inl (cA, 48, .inl (fun _ => 0))), (q17, .inl (cA, 60, .inl (fun _ => 0))), (q18, .inl (cA, 80, .inl (fun _ => 0))), (q19, .inl (cA, 128, .inl (fun _ => 0))), (q20, .inl (cA, 8, .inl (fun _ => 0))), (q21, .inl (cA, 420, .inl (fun _ => 0))), (q22, .inl (cA, 10, .inl (fun _ => 0))), (q23, .inl (cA, 2300, .inl (fun _ => 0)))]) rfl ?_
  refine h_putF X 0 10 rfl rfl inX10 53 (Nat.le_of_ble_eq_true rfl) rfl (gt_of 1337 (by decide +kernel) rfl) tyX10 tyX10_ok nmX10 rfl rfl (ty := (.array .int)) rfl rfl rfl (Nat.le_of_ble_eq_true rfl) (ws' := [(a, .inr (10, [.int 0, .ref q1, .ref q2, .int 0, .ref q3, .int 0, .int 0, .int 0, .int 0, .ref q4, .ref q5, .ref q6, .int 0, .int 0, .int 0, .int 0, .int 0, .ref q7, .ref q8, .ref q9, .ref q10, .ref q11, .ref q12, .ref q13, .ref q14, .int 0, .int 0, .int 0, .ref q15, .int 0, .int 0, .int 0, .int 0, .int (-1 : Int32), .int 0, .ref q16, .int 0, .ref q17, .int 0, .int 0, .int 0, .ref q18, .int 0, .ref q19, .ref q20, .ref q21, .int 0, .ref q22, .int 0, .int 0, .int 0, .int 0, .int 0, .ref q23])), (q1, .inl (cA, 389, .inl (fun _ => 0))), (q2, .inl (cA, 2334, .inl (fun _ => 0))), (q3, .inl (cA, 389, .inl (fun _ => 0))), (q4, .inl (cA, 64, .inl (fun _ => 0))), (q5, .inl (cA, 600, .inl (fun _ => 0))), (q6, .inl (cA, 400, .inl (fun _ => 0))), (q7, .inl (cA, 150, .inl (wf 150))), (q8, .inl (cA, 2, .inl (fun _ => 0))), (q9, .inl (cA, 48, .inl (fun _ => 0))), (q10, .inl (cA, 48, .inl (fun _ => 0))), (q11, .inl (cA, 48, .inl (fun _ => 0))), (q12, .inl (cA, 48, .inl (fun _ => 0))), (q13, .inl (cA, 1200, .inl (fun _ => 0))), (q14, .inl (cA, 1200, .inl (fun _ => 0))), (q15, .inl (cA, 40, .inl (fun _ => 0))), (q16, .inl (cA, 48, .inl (fun _ => 0))), (q17, .inl (cA, 60, .inl (fun _ => 0))), (q18, .inl (cA, 80, .inl (fun _ => 0))), (q19, .inl (cA, 128, .inl (fun _ => 0))), (q20, .inl (cA, 8, .inl (fun _ => 0))), (q21, .inl (cA, 420, .inl (fun _ => 0))), (q22, .inl (cA, 10, .inl (fun _ => 0))), (q23, .inl (cA, 2300, .inl (fun _ => 0)))]) rfl dX10_init_1116 (q := 1119) rfl ?_
  exact RI 1119 _ (fun i => ([q1, q2, q3, q4, q5, q6, q7, q8, q9, q10, q11, q12, q13, q14, q15, q16, q17, q18, q19, q20, q21, q22, q23] : List Nat).getD i 0) dX10_init_1119
