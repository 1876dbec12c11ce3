set_option maxRecDepth 100000 in
set_option maxHeartbeats 8000000 in
theorem law_loop {p : Program} {l : Launch} {e : Env} {st : State} {m : MethodId} {b L : Nat} {xs : Nat → Int32} {below : List Frame} {meth : Method} {c : Code} {Q : State → Prop} {ce sl : Nat} {D : va_G} {cA cL cA2 : ClassId} {h h2 : Nat → Nat} {Z : State → Heap → Prop} {sa : Nat → Nat} (hZ : ZK h Z sa) (X : LX (KC D cA cL h Z) (KM D cA2 h2) p st m c b L xs) (hce : ce ≤ 600000 ∧ sl ≤ 7302249) (hL : L ≤ 3072) {Rel : ST → ST → Prop} (h_state : Sim_state Rel) (h_land : Sim_land Rel) (h_set : Sim_set Rel) (h_feed : Sim_feed Rel) (h_end : Sim_end Rel) (h_text : Sim_text Rel) (h_fault : Sim_fault Rel) (h_sow : Sim_sow Rel) (h_weed : Sim_weed Rel) (h_turn : Sim_turn Rel) (h_days : Sim_days Rel) (h_at : Sim_at Rel) (h_kind : Sim_kind Rel) (h_cross : Sim_cross Rel) (h_gust : Sim_gust Rel) (h_book : Sim_book Rel) (h_blows : Sim_blows Rel) (h_harms : Sim_harms Rel) (h_meets : Sim_meets Rel) (h_sows : Sim_sows Rel) (h_gets : Sim_gets Rel) (h_weeds : Sim_weeds Rel) (h_have : Sim_have Rel) (h_generations : Sim_generations Rel) (h_who : Sim_who Rel) (h_calm : Sim_calm Rel) (h_good : Sim_good Rel) (h_open : Sim_open Rel) (h_game : Sim_game Rel) (h_undo : Sim_undo Rel) (h_image : Sim_image Rel) (h_look : Sim_look Rel) (fin : ∀ (sc sm : ST) (i3 : Int32), LG (KC D cA cL h Z) (KM D cA2 h2) p l e st m b below meth c Q ce sl sc sm 1216 [(3, .int i3), (0, .ref b), (1, .ref (h 0)), (2, .ref (h2 0))] []) : ∀ (n j : Nat), L < 6 * j + n → 6 * j ≤ L + 6 → ∀ (sc sm : ST), Rel sc sm → LG (KC D cA cL h Z) (KM D cA2 h2) p l e st m b below meth c Q ce sl sc sm 18 [(3, .int (nI (6 * j))), (0, .ref b), (1, .ref (h 0)), (2, .ref (h2 0))] [] := by
  intro n
  induction n with
  | zero =>
    intro j hj hj2 sc sm hRel
    refine l_iload_n X dL_law_18 (q := 19) rfl 0 rfl ?_
    refine l_aload_n X dL_law_19 (q := 20) rfl 1 rfl ?_
    refine l_len X dL_law_20 (q := 21) rfl ?_
    refine l_bipush X dL_law_21 (q := 23) rfl (v := (6 : Int32)) (by decide) ?_
    refine l_isub X dL_law_23 (q := 24) rfl ?_
    refine l_gt X dL_law_24 (q := 27) rfl (tgt := 1216) (by decide) (fun _ => fin _ _ _) (fun h0 => absurd (law_lt hL (by omega)) h0)
  | succ n ih =>
    intro j hj hj2 sc sm hRel
    refine l_iload_n X dL_law_18 (q := 19) rfl 0 rfl ?_
    refine l_aload_n X dL_law_19 (q := 20) rfl 1 rfl ?_
    refine l_len X dL_law_20 (q := 21) rfl ?_
    refine l_bipush X dL_law_21 (q := 23) rfl (v := (6 : Int32)) (by decide) ?_
    refine l_isub X dL_law_23 (q := 24) rfl ?_
    refine l_gt X dL_law_24 (q := 27) rfl (tgt := 1216) (by decide) (fun _ => fin _ _ _) (fun h0 => ?_)
    have hj6 := law_ge hL hj2 h0
    have nx : ∀ (sc' sm' : ST), Rel sc' sm' → LG (KC D cA cL h Z) (KM D cA2 h2) p l e st m b below meth c Q ce sl sc' sm' 1210 [(3, .int (nI (6 * j))), (0, .ref b), (1, .ref (h 0)), (2, .ref (h2 0))] [] := by
      intro sc' sm' hR
      refine l_iinc X dL_law_1210 (q := 1213) rfl 0 rfl (v := nI (6 * (j + 1))) (law_inc j) (Nat.le_of_ble_eq_true rfl) (lv' := [(3, .int (nI (6 * (j + 1)))), (0, .ref b), (1, .ref (h 0)), (2, .ref (h2 0))]) rfl ?_
      refine l_goto X dL_law_1213 (tgt := 18) (by decide) ?_
      exact ih (j + 1) (by omega) (by omega) sc' sm' hR
    have hi0 := law_in (k := 0) hL hj6 (by omega)
    have hi1 := law_in1 hL hj6 (k := 1) (by omega)
    have hi2 := law_in1 hL hj6 (k := 2) (by omega)
    have hi3 := law_in1 hL hj6 (k := 3) (by omega)
    have hi4 := law_in1 hL hj6 (k := 4) (by omega)
    have hi5 := law_in1 hL hj6 (k := 5) (by omega)
    have hi1 : vp_in (nI (6 * j) + (1 : Int32)) L := hi1
    have hi2 : vp_in (nI (6 * j) + (2 : Int32)) L := hi2
    have hi3 : vp_in (nI (6 * j) + (3 : Int32)) L := hi3
    have hi4 : vp_in (nI (6 * j) + (4 : Int32)) L := hi4
    have hi5 : vp_in (nI (6 * j) + (5 : Int32)) L := hi5
    generalize nI (6 * j) = i3 at *
    clear ih fin
    refine l_aload_n X dL_law_27 (q := 28) rfl 1 rfl ?_
    refine l_iload_n X dL_law_28 (q := 29) rfl 0 rfl ?_
    refine l_sld X dL_law_29 (q := 30) rfl hi0 ?_
    refine l_bipush X dL_law_30 (q := 32) rfl (v := (31 : Int32)) (by decide) ?_
    refine l_iand X dL_law_32 (q := 33) rfl ?_
    generalize (xs i3.toNatClampNeg &&& 31) = x0
    refine l_tsw X dL_law_33 (z := (0 : Int32)) (tgt := 176) rfl (by decide) (by decide) (by decide) ?_ (fun hn0 => ?_)
    · skip
      obtain ⟨r, sc', sm', e1, e2, hRl⟩ := h_state sc sm (xs ((i3 + (1 : Int32))).toNatClampNeg) hRel
      refine l_aload_n X dL_law_176 (q := 177) rfl 2 rfl ?_
      refine l_aload_n X dL_law_177 (q := 178) rfl 1 rfl ?_
      refine l_iload_n X dL_law_178 (q := 179) rfl 0 rfl ?_
      refine l_iconst X dL_law_179 (q := 180) rfl (v := (1 : Int32)) (by decide) ?_
      refine l_iadd X dL_law_180 (q := 181) rfl ?_
      refine l_sld X dL_law_181 (q := 182) rfl hi1 ?_
      refine lc1_I X (d1 := 2) (n2 := 3) (n := 1) (r0 := r) (u0 := sc') (by have q := k_X9_state hZ l D cA cL sc (xs ((i3 + (1 : Int32))).toNatClampNeg); rw [e1] at q; exact q) gl_X9_state ⟨(Nat.le_of_ble_eq_true rfl), (Nat.le_of_ble_eq_true rfl)⟩ ⟨by decide, by decide, by decide +kernel⟩ (As := [.int (xs ((i3 + (1 : Int32))).toNatClampNeg)]) rfl (Nat.le_of_ble_eq_true rfl) (Nat.le_of_ble_eq_true rfl) (fs := cF9 h 0 (sc.1 0) (sc.2 0)) (GC_9 (cA := cA) (cL := cL) sh_0 _ _) rfl hce rfl dL_law_182 (q := 185) rfl ?_
      refine l_aload_n X dL_law_185 (q := 186) rfl 3 rfl ?_
      refine l_aload_n X dL_law_186 (q := 187) rfl 1 rfl ?_
      refine l_iload_n X dL_law_187 (q := 188) rfl 0 rfl ?_
      refine l_iconst X dL_law_188 (q := 189) rfl (v := (1 : Int32)) (by decide) ?_
      refine l_iadd X dL_law_189 (q := 190) rfl ?_
      refine l_sld X dL_law_190 (q := 191) rfl hi1 ?_
      refine lc2_I X (d1 := 1) (n2 := 3) (n := 1) (r0 := r) (u0 := sm') (by have q := k_state l D cA2 h2 sm (xs ((i3 + (1 : Int32))).toNatClampNeg); rw [e2] at q; exact q) gl_X10_state ⟨(Nat.le_of_ble_eq_true rfl), (Nat.le_of_ble_eq_true rfl)⟩ ⟨by decide, by decide, by decide +kernel⟩ (As := [.int (xs ((i3 + (1 : Int32))).toNatClampNeg)]) rfl (Nat.le_of_ble_eq_true rfl) (Nat.le_of_ble_eq_true rfl) (fs := mF h2 (sm.1 0)) rfl rfl hce rfl dL_law_191 (q := 194) rfl ?_
      refine l_same X dL_law_194 (tgt := 1210) (by decide) ?_
      exact nx sc' sm' hRl
    refine l_tsw X dL_law_33 (z := (1 : Int32)) (tgt := 199) rfl (by decide) (by decide) (by decide) ?_ (fun hn1 => ?_)
    · skip
      obtain ⟨r, sc', sm', e1, e2, hRl⟩ := h_land sc sm (xs ((i3 + (1 : Int32))).toNatClampNeg) (xs ((i3 + (2 : Int32))).toNatClampNeg) hRel
      refine l_aload_n X dL_law_199 (q := 200) rfl 2 rfl ?_
      refine l_aload_n X dL_law_200 (q := 201) rfl 1 rfl ?_
      refine l_iload_n X dL_law_201 (q := 202) rfl 0 rfl ?_
      refine l_iconst X dL_law_202 (q := 203) rfl (v := (1 : Int32)) (by decide) ?_
      refine l_iadd X dL_law_203 (q := 204) rfl ?_
      refine l_sld X dL_law_204 (q := 205) rfl hi1 ?_
      refine l_aload_n X dL_law_205 (q := 206) rfl 1 rfl ?_
      refine l_iload_n X dL_law_206 (q := 207) rfl 0 rfl ?_
      refine l_iconst X dL_law_207 (q := 208) rfl (v := (2 : Int32)) (by decide) ?_
      refine l_iadd X dL_law_208 (q := 209) rfl ?_
      refine l_sld X dL_law_209 (q := 210) rfl hi2 ?_
      refine lc1_I X (d1 := 4) (n2 := 3) (n := 2) (r0 := r) (u0 := sc') (k_X9_land hZ l D cA cL sc (xs ((i3 + (1 : Int32))).toNatClampNeg) (xs ((i3 + (2 : Int32))).toNatClampNeg) e1) gl_X9_land ⟨(Nat.le_of_ble_eq_true rfl), (Nat.le_of_ble_eq_true rfl)⟩ ⟨by decide, by decide, by decide +kernel⟩ (As := [.int (xs ((i3 + (1 : Int32))).toNatClampNeg), .int (xs ((i3 + (2 : Int32))).toNatClampNeg)]) rfl (Nat.le_of_ble_eq_true rfl) (Nat.le_of_ble_eq_true rfl) (fs := cF9 h 0 (sc.1 0) (sc.2 0)) (GC_9 (cA := cA) (cL := cL) sh_0 _ _) rfl hce rfl dL_law_210 (q := 213) rfl ?_
      refine l_aload_n X dL_law_213 (q := 214) rfl 3 rfl ?_
      refine l_aload_n X dL_law_214 (q := 215) rfl 1 rfl ?_
      refine l_iload_n X dL_law_215 (q := 216) rfl 0 rfl ?_
      refine l_iconst X dL_law_216 (q := 217) rfl (v := (1 : Int32)) (by decide) ?_
      refine l_iadd X dL_law_217 (q := 218) rfl ?_
      refine l_sld X dL_law_218 (q := 219) rfl hi1 ?_
      refine l_aload_n X dL_law_219 (q := 220) rfl 1 rfl ?_
      refine l_iload_n X dL_law_220 (q := 221) rfl 0 rfl ?_
      refine l_iconst X dL_law_221 (q := 222) rfl (v := (2 : Int32)) (by decide) ?_
      refine l_iadd X dL_law_222 (q := 223) rfl ?_
      refine l_sld X dL_law_223 (q := 224) rfl hi2 ?_
      refine lc2_I X (d1 := 2) (n2 := 5) (n := 2) (r0 := r) (u0 := sm') (k_land l D cA2 h2 sm (xs ((i3 + (1 : Int32))).toNatClampNeg) (xs ((i3 + (2 : Int32))).toNatClampNeg) e2) gl_X10_land ⟨(Nat.le_of_ble_eq_true rfl), (Nat.le_of_ble_eq_true rfl)⟩ ⟨by decide, by decide, by decide +kernel⟩ (As := [.int (xs ((i3 + (1 : Int32))).toNatClampNeg), .int (xs ((i3 + (2 : Int32))).toNatClampNeg)]) rfl (Nat.le_of_ble_eq_true rfl) (Nat.le_of_ble_eq_true rfl) (fs := mF h2 (sm.1 0)) rfl rfl hce rfl dL_law_224 (q := 227) rfl ?_
      refine l_same X dL_law_227 (tgt := 1210) (by decide) ?_
      exact nx sc' sm' hRl
    refine l_tsw X dL_law_33 (z := (2 : Int32)) (tgt := 232) rfl (by decide) (by decide) (by decide) ?_ (fun hn2 => ?_)
    · skip
      obtain ⟨r, sc', sm', e1, e2, hRl⟩ := h_set sc sm (xs ((i3 + (1 : Int32))).toNatClampNeg) (xs ((i3 + (2 : Int32))).toNatClampNeg) (xs ((i3 + (3 : Int32))).toNatClampNeg) hRel
      refine l_aload_n X dL_law_232 (q := 233) rfl 2 rfl ?_
      refine l_aload_n X dL_law_233 (q := 234) rfl 1 rfl ?_
      refine l_iload_n X dL_law_234 (q := 235) rfl 0 rfl ?_
      refine l_iconst X dL_law_235 (q := 236) rfl (v := (1 : Int32)) (by decide) ?_
      refine l_iadd X dL_law_236 (q := 237) rfl ?_
      refine l_sld X dL_law_237 (q := 238) rfl hi1 ?_
      refine l_aload_n X dL_law_238 (q := 239) rfl 1 rfl ?_
      refine l_iload_n X dL_law_239 (q := 240) rfl 0 rfl ?_
      refine l_iconst X dL_law_240 (q := 241) rfl (v := (2 : Int32)) (by decide) ?_
      refine l_iadd X dL_law_241 (q := 242) rfl ?_
      refine l_sld X dL_law_242 (q := 243) rfl hi2 ?_
      refine l_aload_n X dL_law_243 (q := 244) rfl 1 rfl ?_
      refine l_iload_n X dL_law_244 (q := 245) rfl 0 rfl ?_
      refine l_iconst X dL_law_245 (q := 246) rfl (v := (3 : Int32)) (by decide) ?_
      refine l_iadd X dL_law_246 (q := 247) rfl ?_
      refine l_sld X dL_law_247 (q := 248) rfl hi3 ?_
      refine lc1_I X (d1 := 4) (n2 := 5) (n := 3) (r0 := r) (u0 := sc') (k_X9_set hZ l D cA cL sc (xs ((i3 + (1 : Int32))).toNatClampNeg) (xs ((i3 + (2 : Int32))).toNatClampNeg) (xs ((i3 + (3 : Int32))).toNatClampNeg) e1) gl_X9_set ⟨(Nat.le_of_ble_eq_true rfl), (Nat.le_of_ble_eq_true rfl)⟩ ⟨by decide, by decide, by decide +kernel⟩ (As := [.int (xs ((i3 + (1 : Int32))).toNatClampNeg), .int (xs ((i3 + (2 : Int32))).toNatClampNeg), .int (xs ((i3 + (3 : Int32))).toNatClampNeg)]) rfl (Nat.le_of_ble_eq_true rfl) (Nat.le_of_ble_eq_true rfl) (fs := cF9 h 0 (sc.1 0) (sc.2 0)) (GC_9 (cA := cA) (cL := cL) sh_0 _ _) rfl hce rfl dL_law_248 (q := 251) rfl ?_
      refine l_aload_n X dL_law_251 (q := 252) rfl 3 rfl ?_
      refine l_aload_n X dL_law_252 (q := 253) rfl 1 rfl ?_
      refine l_iload_n X dL_law_253 (q := 254) rfl 0 rfl ?_
      refine l_iconst X dL_law_254 (q := 255) rfl (v := (1 : Int32)) (by decide) ?_
      refine l_iadd X dL_law_255 (q := 256) rfl ?_
      refine l_sld X dL_law_256 (q := 257) rfl hi1 ?_
      refine l_aload_n X dL_law_257 (q := 258) rfl 1 rfl ?_
      refine l_iload_n X dL_law_258 (q := 259) rfl 0 rfl ?_
      refine l_iconst X dL_law_259 (q := 260) rfl (v := (2 : Int32)) (by decide) ?_
      refine l_iadd X dL_law_260 (q := 261) rfl ?_
      refine l_sld X dL_law_261 (q := 262) rfl hi2 ?_
      refine l_aload_n X dL_law_262 (q := 263) rfl 1 rfl ?_
      refine l_iload_n X dL_law_263 (q := 264) rfl 0 rfl ?_
      refine l_iconst X dL_law_264 (q := 265) rfl (v := (3 : Int32)) (by decide) ?_
      refine l_iadd X dL_law_265 (q := 266) rfl ?_
      refine l_sld X dL_law_266 (q := 267) rfl hi3 ?_
      refine lc2_I X (d1 := 4) (n2 := 4) (n := 3) (r0 := r) (u0 := sm') (k_set l D cA2 h2 sm (xs ((i3 + (1 : Int32))).toNatClampNeg) (xs ((i3 + (2 : Int32))).toNatClampNeg) (xs ((i3 + (3 : Int32))).toNatClampNeg) e2) gl_X10_set ⟨(Nat.le_of_ble_eq_true rfl), (Nat.le_of_ble_eq_true rfl)⟩ ⟨by decide, by decide, by decide +kernel⟩ (As := [.int (xs ((i3 + (1 : Int32))).toNatClampNeg), .int (xs ((i3 + (2 : Int32))).toNatClampNeg), .int (xs ((i3 + (3 : Int32))).toNatClampNeg)]) rfl (Nat.le_of_ble_eq_true rfl) (Nat.le_of_ble_eq_true rfl) (fs := mF h2 (sm.1 0)) rfl rfl hce rfl dL_law_267 (q := 270) rfl ?_
      refine l_same X dL_law_270 (tgt := 1210) (by decide) ?_
      exact nx sc' sm' hRl
    refine l_tsw X dL_law_33 (z := (3 : Int32)) (tgt := 275) rfl (by decide) (by decide) (by decide) ?_ (fun hn3 => ?_)
    · skip
      obtain ⟨r, sc', sm', e1, e2, hRl⟩ := h_feed sc sm (xs ((i3 + (1 : Int32))).toNatClampNeg) (xs ((i3 + (2 : Int32))).toNatClampNeg) (xs ((i3 + (3 : Int32))).toNatClampNeg) (xs ((i3 + (4 : Int32))).toNatClampNeg) (xs ((i3 + (5 : Int32))).toNatClampNeg) hRel
      refine l_aload_n X dL_law_275 (q := 276) rfl 2 rfl ?_
      refine l_aload_n X dL_law_276 (q := 277) rfl 1 rfl ?_
      refine l_iload_n X dL_law_277 (q := 278) rfl 0 rfl ?_
      refine l_iconst X dL_law_278 (q := 279) rfl (v := (1 : Int32)) (by decide) ?_
      refine l_iadd X dL_law_279 (q := 280) rfl ?_
      refine l_sld X dL_law_280 (q := 281) rfl hi1 ?_
      refine l_aload_n X dL_law_281 (q := 282) rfl 1 rfl ?_
      refine l_iload_n X dL_law_282 (q := 283) rfl 0 rfl ?_
      refine l_iconst X dL_law_283 (q := 284) rfl (v := (2 : Int32)) (by decide) ?_
      refine l_iadd X dL_law_284 (q := 285) rfl ?_
      refine l_sld X dL_law_285 (q := 286) rfl hi2 ?_
      refine l_aload_n X dL_law_286 (q := 287) rfl 1 rfl ?_
      refine l_iload_n X dL_law_287 (q := 288) rfl 0 rfl ?_
      refine l_iconst X dL_law_288 (q := 289) rfl (v := (3 : Int32)) (by decide) ?_
      refine l_iadd X dL_law_289 (q := 290) rfl ?_
      refine l_sld X dL_law_290 (q := 291) rfl hi3 ?_
      refine l_aload_n X dL_law_291 (q := 292) rfl 1 rfl ?_
      refine l_iload_n X dL_law_292 (q := 293) rfl 0 rfl ?_
      refine l_iconst X dL_law_293 (q := 294) rfl (v := (4 : Int32)) (by decide) ?_
      refine l_iadd X dL_law_294 (q := 295) rfl ?_
      refine l_sld X dL_law_295 (q := 296) rfl hi4 ?_
      refine l_aload_n X dL_law_296 (q := 297) rfl 1 rfl ?_
      refine l_iload_n X dL_law_297 (q := 298) rfl 0 rfl ?_
      refine l_iconst X dL_law_298 (q := 299) rfl (v := (5 : Int32)) (by decide) ?_
      refine l_iadd X dL_law_299 (q := 300) rfl ?_
      refine l_sld X dL_law_300 (q := 301) rfl hi5 ?_
      refine lc1_I X (d1 := 3) (n2 := 6) (n := 5) (r0 := r) (u0 := sc') (k_X9_feed hZ l D cA cL sc (xs ((i3 + (1 : Int32))).toNatClampNeg) (xs ((i3 + (2 : Int32))).toNatClampNeg) (xs ((i3 + (3 : Int32))).toNatClampNeg) (xs ((i3 + (4 : Int32))).toNatClampNeg) (xs ((i3 + (5 : Int32))).toNatClampNeg) e1) gl_X9_feed ⟨(Nat.le_of_ble_eq_true rfl), (Nat.le_of_ble_eq_true rfl)⟩ ⟨by decide, by decide, by decide +kernel⟩ (As := [.int (xs ((i3 + (1 : Int32))).toNatClampNeg), .int (xs ((i3 + (2 : Int32))).toNatClampNeg), .int (xs ((i3 + (3 : Int32))).toNatClampNeg), .int (xs ((i3 + (4 : Int32))).toNatClampNeg), .int (xs ((i3 + (5 : Int32))).toNatClampNeg)]) rfl (Nat.le_of_ble_eq_true rfl) (Nat.le_of_ble_eq_true rfl) (fs := cF9 h 0 (sc.1 0) (sc.2 0)) (GC_9 (cA := cA) (cL := cL) sh_0 _ _) rfl hce rfl dL_law_301 (q := 304) rfl ?_
      refine l_aload_n X dL_law_304 (q := 305) rfl 3 rfl ?_
      refine l_aload_n X dL_law_305 (q := 306) rfl 1 rfl ?_
      refine l_iload_n X dL_law_306 (q := 307) rfl 0 rfl ?_
      refine l_iconst X dL_law_307 (q := 308) rfl (v := (1 : Int32)) (by decide) ?_
      refine l_iadd X dL_law_308 (q := 309) rfl ?_
      refine l_sld X dL_law_309 (q := 310) rfl hi1 ?_
      refine l_aload_n X dL_law_310 (q := 311) rfl 1 rfl ?_
      refine l_iload_n X dL_law_311 (q := 312) rfl 0 rfl ?_
      refine l_iconst X dL_law_312 (q := 313) rfl (v := (2 : Int32)) (by decide) ?_
      refine l_iadd X dL_law_313 (q := 314) rfl ?_
      refine l_sld X dL_law_314 (q := 315) rfl hi2 ?_
      refine l_aload_n X dL_law_315 (q := 316) rfl 1 rfl ?_
      refine l_iload_n X dL_law_316 (q := 317) rfl 0 rfl ?_
      refine l_iconst X dL_law_317 (q := 318) rfl (v := (3 : Int32)) (by decide) ?_
      refine l_iadd X dL_law_318 (q := 319) rfl ?_
      refine l_sld X dL_law_319 (q := 320) rfl hi3 ?_
      refine l_aload_n X dL_law_320 (q := 321) rfl 1 rfl ?_
      refine l_iload_n X dL_law_321 (q := 322) rfl 0 rfl ?_
      refine l_iconst X dL_law_322 (q := 323) rfl (v := (4 : Int32)) (by decide) ?_
      refine l_iadd X dL_law_323 (q := 324) rfl ?_
      refine l_sld X dL_law_324 (q := 325) rfl hi4 ?_
      refine l_aload_n X dL_law_325 (q := 326) rfl 1 rfl ?_
      refine l_iload_n X dL_law_326 (q := 327) rfl 0 rfl ?_
      refine l_iconst X dL_law_327 (q := 328) rfl (v := (5 : Int32)) (by decide) ?_
      refine l_iadd X dL_law_328 (q := 329) rfl ?_
      refine l_sld X dL_law_329 (q := 330) rfl hi5 ?_
      refine lc2_I X (d1 := 2) (n2 := 6) (n := 5) (r0 := r) (u0 := sm') (k_feed l D cA2 h2 sm (xs ((i3 + (1 : Int32))).toNatClampNeg) (xs ((i3 + (2 : Int32))).toNatClampNeg) (xs ((i3 + (3 : Int32))).toNatClampNeg) (xs ((i3 + (4 : Int32))).toNatClampNeg) (xs ((i3 + (5 : Int32))).toNatClampNeg) e2) gl_X10_feed ⟨(Nat.le_of_ble_eq_true rfl), (Nat.le_of_ble_eq_true rfl)⟩ ⟨by decide, by decide, by decide +kernel⟩ (As := [.int (xs ((i3 + (1 : Int32))).toNatClampNeg), .int (xs ((i3 + (2 : Int32))).toNatClampNeg), .int (xs ((i3 + (3 : Int32))).toNatClampNeg), .int (xs ((i3 + (4 : Int32))).toNatClampNeg), .int (xs ((i3 + (5 : Int32))).toNatClampNeg)]) rfl (Nat.le_of_ble_eq_true rfl) (Nat.le_of_ble_eq_true rfl) (fs := mF h2 (sm.1 0)) rfl rfl hce rfl dL_law_330 (q := 333) rfl ?_
      refine l_same X dL_law_333 (tgt := 1210) (by decide) ?_
      exact nx sc' sm' hRl
    refine l_tsw X dL_law_33 (z := (4 : Int32)) (tgt := 338) rfl (by decide) (by decide) (by decide) ?_ (fun hn4 => ?_)
    · skip
      obtain ⟨r, sc', sm', e1, e2, hRl⟩ := h_end sc sm (xs ((i3 + (1 : Int32))).toNatClampNeg) hRel
      refine l_aload_n X dL_law_338 (q := 339) rfl 2 rfl ?_
      refine l_aload_n X dL_law_339 (q := 340) rfl 1 rfl ?_
      refine l_iload_n X dL_law_340 (q := 341) rfl 0 rfl ?_
      refine l_iconst X dL_law_341 (q := 342) rfl (v := (1 : Int32)) (by decide) ?_
      refine l_iadd X dL_law_342 (q := 343) rfl ?_
      refine l_sld X dL_law_343 (q := 344) rfl hi1 ?_
      refine lc1_I X (d1 := 1) (n2 := 2) (n := 1) (r0 := r) (u0 := sc') (by have q := k_X9_end hZ l D cA cL sc (xs ((i3 + (1 : Int32))).toNatClampNeg); rw [e1] at q; exact q) gl_X9_end ⟨(Nat.le_of_ble_eq_true rfl), (Nat.le_of_ble_eq_true rfl)⟩ ⟨by decide, by decide, by decide +kernel⟩ (As := [.int (xs ((i3 + (1 : Int32))).toNatClampNeg)]) rfl (Nat.le_of_ble_eq_true rfl) (Nat.le_of_ble_eq_true rfl) (fs := cF9 h 0 (sc.1 0) (sc.2 0)) (GC_9 (cA := cA) (cL := cL) sh_0 _ _) rfl hce rfl dL_law_344 (q := 347) rfl ?_
      refine l_aload_n X dL_law_347 (q := 348) rfl 3 rfl ?_
      refine l_aload_n X dL_law_348 (q := 349) rfl 1 rfl ?_
      refine l_iload_n X dL_law_349 (q := 350) rfl 0 rfl ?_
      refine l_iconst X dL_law_350 (q := 351) rfl (v := (1 : Int32)) (by decide) ?_
      refine l_iadd X dL_law_351 (q := 352) rfl ?_
      refine l_sld X dL_law_352 (q := 353) rfl hi1 ?_
      refine lc2_I X (d1 := 2) (n2 := 2) (n := 1) (r0 := r) (u0 := sm') (by have q := k_end l D cA2 h2 sm (xs ((i3 + (1 : Int32))).toNatClampNeg); rw [e2] at q; exact q) gl_X10_end ⟨(Nat.le_of_ble_eq_true rfl), (Nat.le_of_ble_eq_true rfl)⟩ ⟨by decide, by decide, by decide +kernel⟩ (As := [.int (xs ((i3 + (1 : Int32))).toNatClampNeg)]) rfl (Nat.le_of_ble_eq_true rfl) (Nat.le_of_ble_eq_true rfl) (fs := mF h2 (sm.1 0)) rfl rfl hce rfl dL_law_353 (q := 356) rfl ?_
      refine l_same X dL_law_356 (tgt := 1210) (by decide) ?_
      exact nx sc' sm' hRl
    refine l_tsw X dL_law_33 (z := (5 : Int32)) (tgt := 361) rfl (by decide) (by decide) (by decide) ?_ (fun hn5 => ?_)
    · skip
      obtain ⟨r, sc', sm', e1, e2, hRl⟩ := h_text sc sm (xs ((i3 + (1 : Int32))).toNatClampNeg) hRel
      refine l_aload_n X dL_law_361 (q := 362) rfl 2 rfl ?_
      refine l_aload_n X dL_law_362 (q := 363) rfl 1 rfl ?_
      refine l_iload_n X dL_law_363 (q := 364) rfl 0 rfl ?_
      refine l_iconst X dL_law_364 (q := 365) rfl (v := (1 : Int32)) (by decide) ?_
      refine l_iadd X dL_law_365 (q := 366) rfl ?_
      refine l_sld X dL_law_366 (q := 367) rfl hi1 ?_
      refine lc1_I X (d1 := 47) (n2 := 3) (n := 1) (r0 := r) (u0 := sc') (k_X9_text hZ l D cA cL sc (xs ((i3 + (1 : Int32))).toNatClampNeg) e1) gl_X9_text ⟨(Nat.le_of_ble_eq_true rfl), (Nat.le_of_ble_eq_true rfl)⟩ ⟨by decide, by decide, by decide +kernel⟩ (As := [.int (xs ((i3 + (1 : Int32))).toNatClampNeg)]) rfl (Nat.le_of_ble_eq_true rfl) (Nat.le_of_ble_eq_true rfl) (fs := cF9 h 0 (sc.1 0) (sc.2 0)) (GC_9 (cA := cA) (cL := cL) sh_0 _ _) rfl hce rfl dL_law_367 (q := 370) rfl ?_
      refine l_aload_n X dL_law_370 (q := 371) rfl 3 rfl ?_
      refine l_aload_n X dL_law_371 (q := 372) rfl 1 rfl ?_
      refine l_iload_n X dL_law_372 (q := 373) rfl 0 rfl ?_
      refine l_iconst X dL_law_373 (q := 374) rfl (v := (1 : Int32)) (by decide) ?_
      refine l_iadd X dL_law_374 (q := 375) rfl ?_
      refine l_sld X dL_law_375 (q := 376) rfl hi1 ?_
      refine lc2_I X (d1 := 11) (n2 := 3) (n := 1) (r0 := r) (u0 := sm') (k_text l D cA2 h2 sm (xs ((i3 + (1 : Int32))).toNatClampNeg) e2) gl_X10_text ⟨(Nat.le_of_ble_eq_true rfl), (Nat.le_of_ble_eq_true rfl)⟩ ⟨by decide, by decide, by decide +kernel⟩ (As := [.int (xs ((i3 + (1 : Int32))).toNatClampNeg)]) rfl (Nat.le_of_ble_eq_true rfl) (Nat.le_of_ble_eq_true rfl) (fs := mF h2 (sm.1 0)) rfl rfl hce rfl dL_law_376 (q := 379) rfl ?_
      refine l_same X dL_law_379 (tgt := 1210) (by decide) ?_
      exact nx sc' sm' hRl
    refine l_tsw X dL_law_33 (z := (6 : Int32)) (tgt := 384) rfl (by decide) (by decide) (by decide) ?_ (fun hn6 => ?_)
    · skip
      obtain ⟨r, sc', sm', e1, e2, hRl⟩ := h_fault sc sm (xs ((i3 + (1 : Int32))).toNatClampNeg) hRel
      obtain ⟨e1, rfl⟩ := e1
      refine l_aload_n X dL_law_384 (q := 385) rfl 2 rfl ?_
      refine l_aload_n X dL_law_385 (q := 386) rfl 1 rfl ?_
      refine l_iload_n X dL_law_386 (q := 387) rfl 0 rfl ?_
      refine l_iconst X dL_law_387 (q := 388) rfl (v := (1 : Int32)) (by decide) ?_
      refine l_iadd X dL_law_388 (q := 389) rfl ?_
      refine l_sld X dL_law_389 (q := 390) rfl hi1 ?_
      refine lc1_I X (d1 := 1) (n2 := 2) (n := 1) (r0 := r) (u0 := sc') (by have q := k_X9_fault hZ l D cA cL sc' (xs ((i3 + (1 : Int32))).toNatClampNeg); rw [e1] at q; exact q) gl_X9_fault ⟨(Nat.le_of_ble_eq_true rfl), (Nat.le_of_ble_eq_true rfl)⟩ ⟨by decide, by decide, by decide +kernel⟩ (As := [.int (xs ((i3 + (1 : Int32))).toNatClampNeg)]) rfl (Nat.le_of_ble_eq_true rfl) (Nat.le_of_ble_eq_true rfl) (fs := cF9 h 0 (sc'.1 0) (sc'.2 0)) (GC_9 (cA := cA) (cL := cL) sh_0 _ _) rfl hce rfl dL_law_390 (q := 393) rfl ?_
      refine l_aload_n X dL_law_393 (q := 394) rfl 3 rfl ?_
      refine l_aload_n X dL_law_394 (q := 395) rfl 1 rfl ?_
      refine l_iload_n X dL_law_395 (q := 396) rfl 0 rfl ?_
      refine l_iconst X dL_law_396 (q := 397) rfl (v := (1 : Int32)) (by decide) ?_
      refine l_iadd X dL_law_397 (q := 398) rfl ?_
      refine l_sld X dL_law_398 (q := 399) rfl hi1 ?_
      refine lc2_I X (d1 := 1) (n2 := 2) (n := 1) (r0 := r) (u0 := sm') (by have q := k_fault l D cA2 h2 sm (xs ((i3 + (1 : Int32))).toNatClampNeg); rw [e2] at q; exact q) gl_X10_fault ⟨(Nat.le_of_ble_eq_true rfl), (Nat.le_of_ble_eq_true rfl)⟩ ⟨by decide, by decide, by decide +kernel⟩ (As := [.int (xs ((i3 + (1 : Int32))).toNatClampNeg)]) rfl (Nat.le_of_ble_eq_true rfl) (Nat.le_of_ble_eq_true rfl) (fs := mF h2 (sm.1 0)) rfl rfl hce rfl dL_law_399 (q := 402) rfl ?_
      refine l_same X dL_law_402 (tgt := 1210) (by decide) ?_
      exact nx sc' sm' hRl
    refine l_tsw X dL_law_33 (z := (7 : Int32)) (tgt := 407) rfl (by decide) (by decide) (by decide) ?_ (fun hn7 => ?_)
    · skip
      obtain ⟨r, sc', sm', e1, e2, hRl⟩ := h_sow sc sm (xs ((i3 + (1 : Int32))).toNatClampNeg) (xs ((i3 + (2 : Int32))).toNatClampNeg) hRel
      refine l_aload_n X dL_law_407 (q := 408) rfl 2 rfl ?_
      refine l_aload_n X dL_law_408 (q := 409) rfl 1 rfl ?_
      refine l_iload_n X dL_law_409 (q := 410) rfl 0 rfl ?_
      refine l_iconst X dL_law_410 (q := 411) rfl (v := (1 : Int32)) (by decide) ?_
      refine l_iadd X dL_law_411 (q := 412) rfl ?_
      refine l_sld X dL_law_412 (q := 413) rfl hi1 ?_
      refine l_aload_n X dL_law_413 (q := 414) rfl 1 rfl ?_
      refine l_iload_n X dL_law_414 (q := 415) rfl 0 rfl ?_
      refine l_iconst X dL_law_415 (q := 416) rfl (v := (2 : Int32)) (by decide) ?_
      refine l_iadd X dL_law_416 (q := 417) rfl ?_
      refine l_sld X dL_law_417 (q := 418) rfl hi2 ?_
      refine lc1_I X (d1 := 4) (n2 := 3) (n := 2) (r0 := r) (u0 := sc') (k_X9_sow hZ l D cA cL sc (xs ((i3 + (1 : Int32))).toNatClampNeg) (xs ((i3 + (2 : Int32))).toNatClampNeg) e1) gl_X9_sow ⟨(Nat.le_of_ble_eq_true rfl), (Nat.le_of_ble_eq_true rfl)⟩ ⟨by decide, by decide, by decide +kernel⟩ (As := [.int (xs ((i3 + (1 : Int32))).toNatClampNeg), .int (xs ((i3 + (2 : Int32))).toNatClampNeg)]) rfl (Nat.le_of_ble_eq_true rfl) (Nat.le_of_ble_eq_true rfl) (fs := cF9 h 0 (sc.1 0) (sc.2 0)) (GC_9 (cA := cA) (cL := cL) sh_0 _ _) rfl hce rfl dL_law_418 (q := 421) rfl ?_
      refine l_aload_n X dL_law_421 (q := 422) rfl 3 rfl ?_
      refine l_aload_n X dL_law_422 (q := 423) rfl 1 rfl ?_
      refine l_iload_n X dL_law_423 (q := 424) rfl 0 rfl ?_
      refine l_iconst X dL_law_424 (q := 425) rfl (v := (1 : Int32)) (by decide) ?_
      refine l_iadd X dL_law_425 (q := 426) rfl ?_
      refine l_sld X dL_law_426 (q := 427) rfl hi1 ?_
      refine l_aload_n X dL_law_427 (q := 428) rfl 1 rfl ?_
      refine l_iload_n X dL_law_428 (q := 429) rfl 0 rfl ?_
      refine l_iconst X dL_law_429 (q := 430) rfl (v := (2 : Int32)) (by decide) ?_
      refine l_iadd X dL_law_430 (q := 431) rfl ?_
      refine l_sld X dL_law_431 (q := 432) rfl hi2 ?_
      refine lc2_I X (d1 := 4) (n2 := 3) (n := 2) (r0 := r) (u0 := sm') (k_sow l D cA2 h2 sm (xs ((i3 + (1 : Int32))).toNatClampNeg) (xs ((i3 + (2 : Int32))).toNatClampNeg) e2) gl_X10_sow ⟨(Nat.le_of_ble_eq_true rfl), (Nat.le_of_ble_eq_true rfl)⟩ ⟨by decide, by decide, by decide +kernel⟩ (As := [.int (xs ((i3 + (1 : Int32))).toNatClampNeg), .int (xs ((i3 + (2 : Int32))).toNatClampNeg)]) rfl (Nat.le_of_ble_eq_true rfl) (Nat.le_of_ble_eq_true rfl) (fs := mF h2 (sm.1 0)) rfl rfl hce rfl dL_law_432 (q := 435) rfl ?_
      refine l_same X dL_law_435 (tgt := 1210) (by decide) ?_
      exact nx sc' sm' hRl
    refine l_tsw X dL_law_33 (z := (8 : Int32)) (tgt := 440) rfl (by decide) (by decide) (by decide) ?_ (fun hn8 => ?_)
    · skip
      obtain ⟨r, sc', sm', e1, e2, hRl⟩ := h_weed sc sm (xs ((i3 + (1 : Int32))).toNatClampNeg) hRel
      refine l_aload_n X dL_law_440 (q := 441) rfl 2 rfl ?_
      refine l_aload_n X dL_law_441 (q := 442) rfl 1 rfl ?_
      refine l_iload_n X dL_law_442 (q := 443) rfl 0 rfl ?_
      refine l_iconst X dL_law_443 (q := 444) rfl (v := (1 : Int32)) (by decide) ?_
      refine l_iadd X dL_law_444 (q := 445) rfl ?_
      refine l_sld X dL_law_445 (q := 446) rfl hi1 ?_
      refine lc1_I X (d1 := 4) (n2 := 2) (n := 1) (r0 := r) (u0 := sc') (k_X9_weed hZ l D cA cL sc (xs ((i3 + (1 : Int32))).toNatClampNeg) e1) gl_X9_weed ⟨(Nat.le_of_ble_eq_true rfl), (Nat.le_of_ble_eq_true rfl)⟩ ⟨by decide, by decide, by decide +kernel⟩ (As := [.int (xs ((i3 + (1 : Int32))).toNatClampNeg)]) rfl (Nat.le_of_ble_eq_true rfl) (Nat.le_of_ble_eq_true rfl) (fs := cF9 h 0 (sc.1 0) (sc.2 0)) (GC_9 (cA := cA) (cL := cL) sh_0 _ _) rfl hce rfl dL_law_446 (q := 449) rfl ?_
      refine l_aload_n X dL_law_449 (q := 450) rfl 3 rfl ?_
      refine l_aload_n X dL_law_450 (q := 451) rfl 1 rfl ?_
      refine l_iload_n X dL_law_451 (q := 452) rfl 0 rfl ?_
      refine l_iconst X dL_law_452 (q := 453) rfl (v := (1 : Int32)) (by decide) ?_
      refine l_iadd X dL_law_453 (q := 454) rfl ?_
      refine l_sld X dL_law_454 (q := 455) rfl hi1 ?_
      refine lc2_I X (d1 := 4) (n2 := 2) (n := 1) (r0 := r) (u0 := sm') (k_weed l D cA2 h2 sm (xs ((i3 + (1 : Int32))).toNatClampNeg) e2) gl_X10_weed ⟨(Nat.le_of_ble_eq_true rfl), (Nat.le_of_ble_eq_true rfl)⟩ ⟨by decide, by decide, by decide +kernel⟩ (As := [.int (xs ((i3 + (1 : Int32))).toNatClampNeg)]) rfl (Nat.le_of_ble_eq_true rfl) (Nat.le_of_ble_eq_true rfl) (fs := mF h2 (sm.1 0)) rfl rfl hce rfl dL_law_455 (q := 458) rfl ?_
      refine l_same X dL_law_458 (tgt := 1210) (by decide) ?_
      exact nx sc' sm' hRl
    refine l_tsw X dL_law_33 (z := (9 : Int32)) (tgt := 463) rfl (by decide) (by decide) (by decide) ?_ (fun hn9 => ?_)
    · skip
      obtain ⟨r, sc', sm', e1, e2, hRl⟩ := h_turn sc sm (xs ((i3 + (1 : Int32))).toNatClampNeg) hRel
      refine l_aload_n X dL_law_463 (q := 464) rfl 2 rfl ?_
      refine l_aload_n X dL_law_464 (q := 465) rfl 1 rfl ?_
      refine l_iload_n X dL_law_465 (q := 466) rfl 0 rfl ?_
      refine l_iconst X dL_law_466 (q := 467) rfl (v := (1 : Int32)) (by decide) ?_
      refine l_iadd X dL_law_467 (q := 468) rfl ?_
      refine l_sld X dL_law_468 (q := 469) rfl hi1 ?_
      refine lc1_I X (d1 := 4) (n2 := 2) (n := 1) (r0 := r) (u0 := sc') (k_X9_turn hZ l D cA cL sc (xs ((i3 + (1 : Int32))).toNatClampNeg) e1) gl_X9_turn ⟨(Nat.le_of_ble_eq_true rfl), (Nat.le_of_ble_eq_true rfl)⟩ ⟨by decide, by decide, by decide +kernel⟩ (As := [.int (xs ((i3 + (1 : Int32))).toNatClampNeg)]) rfl (Nat.le_of_ble_eq_true rfl) (Nat.le_of_ble_eq_true rfl) (fs := cF9 h 0 (sc.1 0) (sc.2 0)) (GC_9 (cA := cA) (cL := cL) sh_0 _ _) rfl hce rfl dL_law_469 (q := 472) rfl ?_
      refine l_aload_n X dL_law_472 (q := 473) rfl 3 rfl ?_
      refine l_aload_n X dL_law_473 (q := 474) rfl 1 rfl ?_
      refine l_iload_n X dL_law_474 (q := 475) rfl 0 rfl ?_
      refine l_iconst X dL_law_475 (q := 476) rfl (v := (1 : Int32)) (by decide) ?_
      refine l_iadd X dL_law_476 (q := 477) rfl ?_
      refine l_sld X dL_law_477 (q := 478) rfl hi1 ?_
      refine lc2_I X (d1 := 2) (n2 := 2) (n := 1) (r0 := r) (u0 := sm') (k_turn l D cA2 h2 sm (xs ((i3 + (1 : Int32))).toNatClampNeg) e2) gl_X10_turn ⟨(Nat.le_of_ble_eq_true rfl), (Nat.le_of_ble_eq_true rfl)⟩ ⟨by decide, by decide, by decide +kernel⟩ (As := [.int (xs ((i3 + (1 : Int32))).toNatClampNeg)]) rfl (Nat.le_of_ble_eq_true rfl) (Nat.le_of_ble_eq_true rfl) (fs := mF h2 (sm.1 0)) rfl rfl hce rfl dL_law_478 (q := 481) rfl ?_
      refine l_same X dL_law_481 (tgt := 1210) (by decide) ?_
      exact nx sc' sm' hRl
    refine l_tsw X dL_law_33 (z := (10 : Int32)) (tgt := 486) rfl (by decide) (by decide) (by decide) ?_ (fun hn10 => ?_)
    · skip
      obtain ⟨r, sc', sm', e1, e2, hRl⟩ := h_days sc sm (xs ((i3 + (1 : Int32))).toNatClampNeg) hRel
      refine l_aload_n X dL_law_486 (q := 487) rfl 2 rfl ?_
      refine l_aload_n X dL_law_487 (q := 488) rfl 1 rfl ?_
      refine l_iload_n X dL_law_488 (q := 489) rfl 0 rfl ?_
      refine l_iconst X dL_law_489 (q := 490) rfl (v := (1 : Int32)) (by decide) ?_
      refine l_iadd X dL_law_490 (q := 491) rfl ?_
      refine l_sld X dL_law_491 (q := 492) rfl hi1 ?_
      refine lc1_I X (d1 := 7) (n2 := 4) (n := 1) (r0 := r) (u0 := sc') (k_X9_days hZ l D cA cL sc (xs ((i3 + (1 : Int32))).toNatClampNeg) e1) gl_X9_days ⟨(Nat.le_of_ble_eq_true rfl), (Nat.le_of_ble_eq_true rfl)⟩ ⟨by decide, by decide, by decide +kernel⟩ (As := [.int (xs ((i3 + (1 : Int32))).toNatClampNeg)]) rfl (Nat.le_of_ble_eq_true rfl) (Nat.le_of_ble_eq_true rfl) (fs := cF9 h 0 (sc.1 0) (sc.2 0)) (GC_9 (cA := cA) (cL := cL) sh_0 _ _) rfl hce rfl dL_law_492 (q := 495) rfl ?_
      refine l_aload_n X dL_law_495 (q := 496) rfl 3 rfl ?_
      refine l_aload_n X dL_law_496 (q := 497) rfl 1 rfl ?_
      refine l_iload_n X dL_law_497 (q := 498) rfl 0 rfl ?_
      refine l_iconst X dL_law_498 (q := 499) rfl (v := (1 : Int32)) (by decide) ?_
      refine l_iadd X dL_law_499 (q := 500) rfl ?_
      refine l_sld X dL_law_500 (q := 501) rfl hi1 ?_
      refine lc2_I X (d1 := 9) (n2 := 4) (n := 1) (r0 := r) (u0 := sm') (k_days l D cA2 h2 sm (xs ((i3 + (1 : Int32))).toNatClampNeg) e2) gl_X10_days ⟨(Nat.le_of_ble_eq_true rfl), (Nat.le_of_ble_eq_true rfl)⟩ ⟨by decide, by decide, by decide +kernel⟩ (As := [.int (xs ((i3 + (1 : Int32))).toNatClampNeg)]) rfl (Nat.le_of_ble_eq_true rfl) (Nat.le_of_ble_eq_true rfl) (fs := mF h2 (sm.1 0)) rfl rfl hce rfl dL_law_501 (q := 504) rfl ?_
      refine l_same X dL_law_504 (tgt := 1210) (by decide) ?_
      exact nx sc' sm' hRl
    refine l_tsw X dL_law_33 (z := (11 : Int32)) (tgt := 509) rfl (by decide) (by decide) (by decide) ?_ (fun hn11 => ?_)
    · skip
      obtain ⟨r, sc', sm', e1, e2, hRl⟩ := h_at sc sm (xs ((i3 + (1 : Int32))).toNatClampNeg) (xs ((i3 + (2 : Int32))).toNatClampNeg) hRel
      refine l_aload_n X dL_law_509 (q := 510) rfl 2 rfl ?_
      refine l_aload_n X dL_law_510 (q := 511) rfl 1 rfl ?_
      refine l_iload_n X dL_law_511 (q := 512) rfl 0 rfl ?_
      refine l_iconst X dL_law_512 (q := 513) rfl (v := (1 : Int32)) (by decide) ?_
      refine l_iadd X dL_law_513 (q := 514) rfl ?_
      refine l_sld X dL_law_514 (q := 515) rfl hi1 ?_
      refine l_aload_n X dL_law_515 (q := 516) rfl 1 rfl ?_
      refine l_iload_n X dL_law_516 (q := 517) rfl 0 rfl ?_
      refine l_iconst X dL_law_517 (q := 518) rfl (v := (2 : Int32)) (by decide) ?_
      refine l_iadd X dL_law_518 (q := 519) rfl ?_
      refine l_sld X dL_law_519 (q := 520) rfl hi2 ?_
      refine lc1_I X (d1 := 5) (n2 := 5) (n := 2) (r0 := r) (u0 := sc') (k_X9_at hZ l D cA cL sc (xs ((i3 + (1 : Int32))).toNatClampNeg) (xs ((i3 + (2 : Int32))).toNatClampNeg) e1) gl_X9_at ⟨(Nat.le_of_ble_eq_true rfl), (Nat.le_of_ble_eq_true rfl)⟩ ⟨by decide, by decide, by decide +kernel⟩ (As := [.int (xs ((i3 + (1 : Int32))).toNatClampNeg), .int (xs ((i3 + (2 : Int32))).toNatClampNeg)]) rfl (Nat.le_of_ble_eq_true rfl) (Nat.le_of_ble_eq_true rfl) (fs := cF9 h 0 (sc.1 0) (sc.2 0)) (GC_9 (cA := cA) (cL := cL) sh_0 _ _) rfl hce rfl dL_law_520 (q := 523) rfl ?_
      refine l_aload_n X dL_law_523 (q := 524) rfl 3 rfl ?_
      refine l_aload_n X dL_law_524 (q := 525) rfl 1 rfl ?_
      refine l_iload_n X dL_law_525 (q := 526) rfl 0 rfl ?_
      refine l_iconst X dL_law_526 (q := 527) rfl (v := (1 : Int32)) (by decide) ?_
      refine l_iadd X dL_law_527 (q := 528) rfl ?_
      refine l_sld X dL_law_528 (q := 529) rfl hi1 ?_
      refine l_aload_n X dL_law_529 (q := 530) rfl 1 rfl ?_
      refine l_iload_n X dL_law_530 (q := 531) rfl 0 rfl ?_
      refine l_iconst X dL_law_531 (q := 532) rfl (v := (2 : Int32)) (by decide) ?_
      refine l_iadd X dL_law_532 (q := 533) rfl ?_
      refine l_sld X dL_law_533 (q := 534) rfl hi2 ?_
      refine lc2_I X (d1 := 6) (n2 := 3) (n := 2) (r0 := r) (u0 := sm') (k_at l D cA2 h2 sm (xs ((i3 + (1 : Int32))).toNatClampNeg) (xs ((i3 + (2 : Int32))).toNatClampNeg) e2) gl_X10_at ⟨(Nat.le_of_ble_eq_true rfl), (Nat.le_of_ble_eq_true rfl)⟩ ⟨by decide, by decide, by decide +kernel⟩ (As := [.int (xs ((i3 + (1 : Int32))).toNatClampNeg), .int (xs ((i3 + (2 : Int32))).toNatClampNeg)]) rfl (Nat.le_of_ble_eq_true rfl) (Nat.le_of_ble_eq_true rfl) (fs := mF h2 (sm.1 0)) rfl rfl hce rfl dL_law_534 (q := 537) rfl ?_
      refine l_same X dL_law_537 (tgt := 1210) (by decide) ?_
      exact nx sc' sm' hRl
    refine l_tsw X dL_law_33 (z := (12 : Int32)) (tgt := 542) rfl (by decide) (by decide) (by decide) ?_ (fun hn12 => ?_)
    · skip
      obtain ⟨r, sc', sm', e1, e2, hRl⟩ := h_kind sc sm (xs ((i3 + (1 : Int32))).toNatClampNeg) (xs ((i3 + (2 : Int32))).toNatClampNeg) hRel
      obtain ⟨e1, rfl⟩ := e1
      refine l_aload_n X dL_law_542 (q := 543) rfl 2 rfl ?_
      refine l_aload_n X dL_law_543 (q := 544) rfl 1 rfl ?_
      refine l_iload_n X dL_law_544 (q := 545) rfl 0 rfl ?_
      refine l_iconst X dL_law_545 (q := 546) rfl (v := (1 : Int32)) (by decide) ?_
      refine l_iadd X dL_law_546 (q := 547) rfl ?_
      refine l_sld X dL_law_547 (q := 548) rfl hi1 ?_
      refine l_aload_n X dL_law_548 (q := 549) rfl 1 rfl ?_
      refine l_iload_n X dL_law_549 (q := 550) rfl 0 rfl ?_
      refine l_iconst X dL_law_550 (q := 551) rfl (v := (2 : Int32)) (by decide) ?_
      refine l_iadd X dL_law_551 (q := 552) rfl ?_
      refine l_sld X dL_law_552 (q := 553) rfl hi2 ?_
      refine lc1_I X (d1 := 3) (n2 := 3) (n := 2) (r0 := r) (u0 := sc') (k_X9_kind hZ l D cA cL sc' (xs ((i3 + (1 : Int32))).toNatClampNeg) (xs ((i3 + (2 : Int32))).toNatClampNeg) e1) gl_X9_kind ⟨(Nat.le_of_ble_eq_true rfl), (Nat.le_of_ble_eq_true rfl)⟩ ⟨by decide, by decide, by decide +kernel⟩ (As := [.int (xs ((i3 + (1 : Int32))).toNatClampNeg), .int (xs ((i3 + (2 : Int32))).toNatClampNeg)]) rfl (Nat.le_of_ble_eq_true rfl) (Nat.le_of_ble_eq_true rfl) (fs := cF9 h 0 (sc'.1 0) (sc'.2 0)) (GC_9 (cA := cA) (cL := cL) sh_0 _ _) rfl hce rfl dL_law_553 (q := 556) rfl ?_
      refine l_aload_n X dL_law_556 (q := 557) rfl 3 rfl ?_
      refine l_aload_n X dL_law_557 (q := 558) rfl 1 rfl ?_
      refine l_iload_n X dL_law_558 (q := 559) rfl 0 rfl ?_
      refine l_iconst X dL_law_559 (q := 560) rfl (v := (1 : Int32)) (by decide) ?_
      refine l_iadd X dL_law_560 (q := 561) rfl ?_
      refine l_sld X dL_law_561 (q := 562) rfl hi1 ?_
      refine l_aload_n X dL_law_562 (q := 563) rfl 1 rfl ?_
      refine l_iload_n X dL_law_563 (q := 564) rfl 0 rfl ?_
      refine l_iconst X dL_law_564 (q := 565) rfl (v := (2 : Int32)) (by decide) ?_
      refine l_iadd X dL_law_565 (q := 566) rfl ?_
      refine l_sld X dL_law_566 (q := 567) rfl hi2 ?_
      refine lc2_I X (d1 := 2) (n2 := 3) (n := 2) (r0 := r) (u0 := sm') (k_kind l D cA2 h2 sm (xs ((i3 + (1 : Int32))).toNatClampNeg) (xs ((i3 + (2 : Int32))).toNatClampNeg) e2) gl_X10_kind ⟨(Nat.le_of_ble_eq_true rfl), (Nat.le_of_ble_eq_true rfl)⟩ ⟨by decide, by decide, by decide +kernel⟩ (As := [.int (xs ((i3 + (1 : Int32))).toNatClampNeg), .int (xs ((i3 + (2 : Int32))).toNatClampNeg)]) rfl (Nat.le_of_ble_eq_true rfl) (Nat.le_of_ble_eq_true rfl) (fs := mF h2 (sm.1 0)) rfl rfl hce rfl dL_law_567 (q := 570) rfl ?_
      refine l_same X dL_law_570 (tgt := 1210) (by decide) ?_
      exact nx sc' sm' hRl
    refine l_tsw X dL_law_33 (z := (13 : Int32)) (tgt := 575) rfl (by decide) (by decide) (by decide) ?_ (fun hn13 => ?_)
    · skip
      obtain ⟨r, sc', sm', e1, e2, hRl⟩ := h_cross sc sm (xs ((i3 + (1 : Int32))).toNatClampNeg) (xs ((i3 + (2 : Int32))).toNatClampNeg) hRel
      obtain ⟨e1, rfl⟩ := e1
      refine l_aload_n X dL_law_575 (q := 576) rfl 2 rfl ?_
      refine l_aload_n X dL_law_576 (q := 577) rfl 1 rfl ?_
      refine l_iload_n X dL_law_577 (q := 578) rfl 0 rfl ?_
      refine l_iconst X dL_law_578 (q := 579) rfl (v := (1 : Int32)) (by decide) ?_
      refine l_iadd X dL_law_579 (q := 580) rfl ?_
      refine l_sld X dL_law_580 (q := 581) rfl hi1 ?_
      refine l_aload_n X dL_law_581 (q := 582) rfl 1 rfl ?_
      refine l_iload_n X dL_law_582 (q := 583) rfl 0 rfl ?_
      refine l_iconst X dL_law_583 (q := 584) rfl (v := (2 : Int32)) (by decide) ?_
      refine l_iadd X dL_law_584 (q := 585) rfl ?_
      refine l_sld X dL_law_585 (q := 586) rfl hi2 ?_
      refine lc1_I X (d1 := 4) (n2 := 3) (n := 2) (r0 := r) (u0 := sc') (k_X9_cross hZ l D cA cL sc' (xs ((i3 + (1 : Int32))).toNatClampNeg) (xs ((i3 + (2 : Int32))).toNatClampNeg) e1) gl_X9_cross ⟨(Nat.le_of_ble_eq_true rfl), (Nat.le_of_ble_eq_true rfl)⟩ ⟨by decide, by decide, by decide +kernel⟩ (As := [.int (xs ((i3 + (1 : Int32))).toNatClampNeg), .int (xs ((i3 + (2 : Int32))).toNatClampNeg)]) rfl (Nat.le_of_ble_eq_true rfl) (Nat.le_of_ble_eq_true rfl) (fs := cF9 h 0 (sc'.1 0) (sc'.2 0)) (GC_9 (cA := cA) (cL := cL) sh_0 _ _) rfl hce rfl dL_law_586 (q := 589) rfl ?_
      refine l_aload_n X dL_law_589 (q := 590) rfl 3 rfl ?_
      refine l_aload_n X dL_law_590 (q := 591) rfl 1 rfl ?_
      refine l_iload_n X dL_law_591 (q := 592) rfl 0 rfl ?_
      refine l_iconst X dL_law_592 (q := 593) rfl (v := (1 : Int32)) (by decide) ?_
      refine l_iadd X dL_law_593 (q := 594) rfl ?_
      refine l_sld X dL_law_594 (q := 595) rfl hi1 ?_
      refine l_aload_n X dL_law_595 (q := 596) rfl 1 rfl ?_
      refine l_iload_n X dL_law_596 (q := 597) rfl 0 rfl ?_
      refine l_iconst X dL_law_597 (q := 598) rfl (v := (2 : Int32)) (by decide) ?_
      refine l_iadd X dL_law_598 (q := 599) rfl ?_
      refine l_sld X dL_law_599 (q := 600) rfl hi2 ?_
      refine lc2_I X (d1 := 2) (n2 := 3) (n := 2) (r0 := r) (u0 := sm') (k_cross l D cA2 h2 sm (xs ((i3 + (1 : Int32))).toNatClampNeg) (xs ((i3 + (2 : Int32))).toNatClampNeg) e2) gl_X10_cross ⟨(Nat.le_of_ble_eq_true rfl), (Nat.le_of_ble_eq_true rfl)⟩ ⟨by decide, by decide, by decide +kernel⟩ (As := [.int (xs ((i3 + (1 : Int32))).toNatClampNeg), .int (xs ((i3 + (2 : Int32))).toNatClampNeg)]) rfl (Nat.le_of_ble_eq_true rfl) (Nat.le_of_ble_eq_true rfl) (fs := mF h2 (sm.1 0)) rfl rfl hce rfl dL_law_600 (q := 603) rfl ?_
      refine l_same X dL_law_603 (tgt := 1210) (by decide) ?_
      exact nx sc' sm' hRl
    refine l_tsw X dL_law_33 (z := (14 : Int32)) (tgt := 608) rfl (by decide) (by decide) (by decide) ?_ (fun hn14 => ?_)
    · skip
      obtain ⟨r, sc', sm', e1, e2, hRl⟩ := h_gust sc sm (xs ((i3 + (1 : Int32))).toNatClampNeg) (xs ((i3 + (2 : Int32))).toNatClampNeg) (xs ((i3 + (3 : Int32))).toNatClampNeg) hRel
      refine l_aload_n X dL_law_608 (q := 609) rfl 2 rfl ?_
      refine l_aload_n X dL_law_609 (q := 610) rfl 1 rfl ?_
      refine l_iload_n X dL_law_610 (q := 611) rfl 0 rfl ?_
      refine l_iconst X dL_law_611 (q := 612) rfl (v := (1 : Int32)) (by decide) ?_
      refine l_iadd X dL_law_612 (q := 613) rfl ?_
      refine l_sld X dL_law_613 (q := 614) rfl hi1 ?_
      refine l_aload_n X dL_law_614 (q := 615) rfl 1 rfl ?_
      refine l_iload_n X dL_law_615 (q := 616) rfl 0 rfl ?_
      refine l_iconst X dL_law_616 (q := 617) rfl (v := (2 : Int32)) (by decide) ?_
      refine l_iadd X dL_law_617 (q := 618) rfl ?_
      refine l_sld X dL_law_618 (q := 619) rfl hi2 ?_
      refine l_aload_n X dL_law_619 (q := 620) rfl 1 rfl ?_
      refine l_iload_n X dL_law_620 (q := 621) rfl 0 rfl ?_
      refine l_iconst X dL_law_621 (q := 622) rfl (v := (3 : Int32)) (by decide) ?_
      refine l_iadd X dL_law_622 (q := 623) rfl ?_
      refine l_sld X dL_law_623 (q := 624) rfl hi3 ?_
      refine lc1_I X (d1 := 5) (n2 := 4) (n := 3) (r0 := r) (u0 := sc') (k_X9_gust hZ l D cA cL sc (xs ((i3 + (1 : Int32))).toNatClampNeg) (xs ((i3 + (2 : Int32))).toNatClampNeg) (xs ((i3 + (3 : Int32))).toNatClampNeg) e1) gl_X9_gust ⟨(Nat.le_of_ble_eq_true rfl), (Nat.le_of_ble_eq_true rfl)⟩ ⟨by decide, by decide, by decide +kernel⟩ (As := [.int (xs ((i3 + (1 : Int32))).toNatClampNeg), .int (xs ((i3 + (2 : Int32))).toNatClampNeg), .int (xs ((i3 + (3 : Int32))).toNatClampNeg)]) rfl (Nat.le_of_ble_eq_true rfl) (Nat.le_of_ble_eq_true rfl) (fs := cF9 h 0 (sc.1 0) (sc.2 0)) (GC_9 (cA := cA) (cL := cL) sh_0 _ _) rfl hce rfl dL_law_624 (q := 627) rfl ?_
      refine l_aload_n X dL_law_627 (q := 628) rfl 3 rfl ?_
      refine l_aload_n X dL_law_628 (q := 629) rfl 1 rfl ?_
      refine l_iload_n X dL_law_629 (q := 630) rfl 0 rfl ?_
      refine l_iconst X dL_law_630 (q := 631) rfl (v := (1 : Int32)) (by decide) ?_
      refine l_iadd X dL_law_631 (q := 632) rfl ?_
      refine l_sld X dL_law_632 (q := 633) rfl hi1 ?_
      refine l_aload_n X dL_law_633 (q := 634) rfl 1 rfl ?_
      refine l_iload_n X dL_law_634 (q := 635) rfl 0 rfl ?_
      refine l_iconst X dL_law_635 (q := 636) rfl (v := (2 : Int32)) (by decide) ?_
      refine l_iadd X dL_law_636 (q := 637) rfl ?_
      refine l_sld X dL_law_637 (q := 638) rfl hi2 ?_
      refine l_aload_n X dL_law_638 (q := 639) rfl 1 rfl ?_
      refine l_iload_n X dL_law_639 (q := 640) rfl 0 rfl ?_
      refine l_iconst X dL_law_640 (q := 641) rfl (v := (3 : Int32)) (by decide) ?_
      refine l_iadd X dL_law_641 (q := 642) rfl ?_
      refine l_sld X dL_law_642 (q := 643) rfl hi3 ?_
      refine lc2_I X (d1 := 6) (n2 := 4) (n := 3) (r0 := r) (u0 := sm') (k_gust l D cA2 h2 sm (xs ((i3 + (1 : Int32))).toNatClampNeg) (xs ((i3 + (2 : Int32))).toNatClampNeg) (xs ((i3 + (3 : Int32))).toNatClampNeg) e2) gl_X10_gust ⟨(Nat.le_of_ble_eq_true rfl), (Nat.le_of_ble_eq_true rfl)⟩ ⟨by decide, by decide, by decide +kernel⟩ (As := [.int (xs ((i3 + (1 : Int32))).toNatClampNeg), .int (xs ((i3 + (2 : Int32))).toNatClampNeg), .int (xs ((i3 + (3 : Int32))).toNatClampNeg)]) rfl (Nat.le_of_ble_eq_true rfl) (Nat.le_of_ble_eq_true rfl) (fs := mF h2 (sm.1 0)) rfl rfl hce rfl dL_law_643 (q := 646) rfl ?_
      refine l_same X dL_law_646 (tgt := 1210) (by decide) ?_
      exact nx sc' sm' hRl
    refine l_tsw X dL_law_33 (z := (15 : Int32)) (tgt := 651) rfl (by decide) (by decide) (by decide) ?_ (fun hn15 => ?_)
    · skip
      obtain ⟨r, sc', sm', e1, e2, hRl⟩ := h_book sc sm (xs ((i3 + (1 : Int32))).toNatClampNeg) (xs ((i3 + (2 : Int32))).toNatClampNeg) hRel
      obtain ⟨e1, rfl⟩ := e1
      refine l_aload_n X dL_law_651 (q := 652) rfl 2 rfl ?_
      refine l_aload_n X dL_law_652 (q := 653) rfl 1 rfl ?_
      refine l_iload_n X dL_law_653 (q := 654) rfl 0 rfl ?_
      refine l_iconst X dL_law_654 (q := 655) rfl (v := (1 : Int32)) (by decide) ?_
      refine l_iadd X dL_law_655 (q := 656) rfl ?_
      refine l_sld X dL_law_656 (q := 657) rfl hi1 ?_
      refine l_aload_n X dL_law_657 (q := 658) rfl 1 rfl ?_
      refine l_iload_n X dL_law_658 (q := 659) rfl 0 rfl ?_
      refine l_iconst X dL_law_659 (q := 660) rfl (v := (2 : Int32)) (by decide) ?_
      refine l_iadd X dL_law_660 (q := 661) rfl ?_
      refine l_sld X dL_law_661 (q := 662) rfl hi2 ?_
      refine lc1_I X (d1 := 3) (n2 := 3) (n := 2) (r0 := r) (u0 := sc') (k_X9_book hZ l D cA cL sc' (xs ((i3 + (1 : Int32))).toNatClampNeg) (xs ((i3 + (2 : Int32))).toNatClampNeg) e1) gl_X9_book ⟨(Nat.le_of_ble_eq_true rfl), (Nat.le_of_ble_eq_true rfl)⟩ ⟨by decide, by decide, by decide +kernel⟩ (As := [.int (xs ((i3 + (1 : Int32))).toNatClampNeg), .int (xs ((i3 + (2 : Int32))).toNatClampNeg)]) rfl (Nat.le_of_ble_eq_true rfl) (Nat.le_of_ble_eq_true rfl) (fs := cF9 h 0 (sc'.1 0) (sc'.2 0)) (GC_9 (cA := cA) (cL := cL) sh_0 _ _) rfl hce rfl dL_law_662 (q := 665) rfl ?_
      refine l_aload_n X dL_law_665 (q := 666) rfl 3 rfl ?_
      refine l_aload_n X dL_law_666 (q := 667) rfl 1 rfl ?_
      refine l_iload_n X dL_law_667 (q := 668) rfl 0 rfl ?_
      refine l_iconst X dL_law_668 (q := 669) rfl (v := (1 : Int32)) (by decide) ?_
      refine l_iadd X dL_law_669 (q := 670) rfl ?_
      refine l_sld X dL_law_670 (q := 671) rfl hi1 ?_
      refine l_aload_n X dL_law_671 (q := 672) rfl 1 rfl ?_
      refine l_iload_n X dL_law_672 (q := 673) rfl 0 rfl ?_
      refine l_iconst X dL_law_673 (q := 674) rfl (v := (2 : Int32)) (by decide) ?_
      refine l_iadd X dL_law_674 (q := 675) rfl ?_
      refine l_sld X dL_law_675 (q := 676) rfl hi2 ?_
      refine lc2_I X (d1 := 2) (n2 := 3) (n := 2) (r0 := r) (u0 := sm') (k_book l D cA2 h2 sm (xs ((i3 + (1 : Int32))).toNatClampNeg) (xs ((i3 + (2 : Int32))).toNatClampNeg) e2) gl_X10_book ⟨(Nat.le_of_ble_eq_true rfl), (Nat.le_of_ble_eq_true rfl)⟩ ⟨by decide, by decide, by decide +kernel⟩ (As := [.int (xs ((i3 + (1 : Int32))).toNatClampNeg), .int (xs ((i3 + (2 : Int32))).toNatClampNeg)]) rfl (Nat.le_of_ble_eq_true rfl) (Nat.le_of_ble_eq_true rfl) (fs := mF h2 (sm.1 0)) rfl rfl hce rfl dL_law_676 (q := 679) rfl ?_
      refine l_same X dL_law_679 (tgt := 1210) (by decide) ?_
      exact nx sc' sm' hRl
    refine l_tsw X dL_law_33 (z := (16 : Int32)) (tgt := 684) rfl (by decide) (by decide) (by decide) ?_ (fun hn16 => ?_)
    · skip
      obtain ⟨r, sc', sm', e1, e2, hRl⟩ := h_blows sc sm (xs ((i3 + (1 : Int32))).toNatClampNeg) hRel
      refine l_aload_n X dL_law_684 (q := 685) rfl 2 rfl ?_
      refine l_aload_n X dL_law_685 (q := 686) rfl 1 rfl ?_
      refine l_iload_n X dL_law_686 (q := 687) rfl 0 rfl ?_
      refine l_iconst X dL_law_687 (q := 688) rfl (v := (1 : Int32)) (by decide) ?_
      refine l_iadd X dL_law_688 (q := 689) rfl ?_
      refine l_sld X dL_law_689 (q := 690) rfl hi1 ?_
      refine lc1_L X (d1 := 9) (n2 := 2) (n := 1) (r0 := r) (u0 := sc') (k_X9_blows hZ l D cA cL sc (xs ((i3 + (1 : Int32))).toNatClampNeg) e1) gl_X9_blows ⟨(Nat.le_of_ble_eq_true rfl), (Nat.le_of_ble_eq_true rfl)⟩ ⟨by decide, by decide, by decide +kernel⟩ (As := [.int (xs ((i3 + (1 : Int32))).toNatClampNeg)]) rfl (Nat.le_of_ble_eq_true rfl) (Nat.le_of_ble_eq_true rfl) (fs := cF9 h 0 (sc.1 0) (sc.2 0)) (GC_9 (cA := cA) (cL := cL) sh_0 _ _) rfl hce rfl dL_law_690 (q := 693) rfl ?_
      refine l_aload_n X dL_law_693 (q := 694) rfl 3 rfl ?_
      refine l_aload_n X dL_law_694 (q := 695) rfl 1 rfl ?_
      refine l_iload_n X dL_law_695 (q := 696) rfl 0 rfl ?_
      refine l_iconst X dL_law_696 (q := 697) rfl (v := (1 : Int32)) (by decide) ?_
      refine l_iadd X dL_law_697 (q := 698) rfl ?_
      refine l_sld X dL_law_698 (q := 699) rfl hi1 ?_
      refine lc2_L X (d1 := 10) (n2 := 4) (n := 1) (r0 := r) (u0 := sm') (k_blows l D cA2 h2 sm (xs ((i3 + (1 : Int32))).toNatClampNeg) e2) gl_X10_blows ⟨(Nat.le_of_ble_eq_true rfl), (Nat.le_of_ble_eq_true rfl)⟩ ⟨by decide, by decide, by decide +kernel⟩ (As := [.int (xs ((i3 + (1 : Int32))).toNatClampNeg)]) rfl (Nat.le_of_ble_eq_true rfl) (Nat.le_of_ble_eq_true rfl) (fs := mF h2 (sm.1 0)) rfl rfl hce rfl dL_law_699 (q := 702) rfl ?_
      refine l_sameL X dL_law_702 rfl dL_law_703 (tgt := 1210) (by decide) ?_
      exact nx sc' sm' hRl
    refine l_tsw X dL_law_33 (z := (17 : Int32)) (tgt := 708) rfl (by decide) (by decide) (by decide) ?_ (fun hn17 => ?_)
    · skip
      obtain ⟨r, sc', sm', e1, e2, hRl⟩ := h_harms sc sm (xs ((i3 + (1 : Int32))).toNatClampNeg) hRel
      refine l_aload_n X dL_law_708 (q := 709) rfl 2 rfl ?_
      refine l_aload_n X dL_law_709 (q := 710) rfl 1 rfl ?_
      refine l_iload_n X dL_law_710 (q := 711) rfl 0 rfl ?_
      refine l_iconst X dL_law_711 (q := 712) rfl (v := (1 : Int32)) (by decide) ?_
      refine l_iadd X dL_law_712 (q := 713) rfl ?_
      refine l_sld X dL_law_713 (q := 714) rfl hi1 ?_
      refine lc1_I X (d1 := 9) (n2 := 2) (n := 1) (r0 := r) (u0 := sc') (k_X9_harms hZ l D cA cL sc (xs ((i3 + (1 : Int32))).toNatClampNeg) e1) gl_X9_harms ⟨(Nat.le_of_ble_eq_true rfl), (Nat.le_of_ble_eq_true rfl)⟩ ⟨by decide, by decide, by decide +kernel⟩ (As := [.int (xs ((i3 + (1 : Int32))).toNatClampNeg)]) rfl (Nat.le_of_ble_eq_true rfl) (Nat.le_of_ble_eq_true rfl) (fs := cF9 h 0 (sc.1 0) (sc.2 0)) (GC_9 (cA := cA) (cL := cL) sh_0 _ _) rfl hce rfl dL_law_714 (q := 717) rfl ?_
      refine l_aload_n X dL_law_717 (q := 718) rfl 3 rfl ?_
      refine l_aload_n X dL_law_718 (q := 719) rfl 1 rfl ?_
      refine l_iload_n X dL_law_719 (q := 720) rfl 0 rfl ?_
      refine l_iconst X dL_law_720 (q := 721) rfl (v := (1 : Int32)) (by decide) ?_
      refine l_iadd X dL_law_721 (q := 722) rfl ?_
      refine l_sld X dL_law_722 (q := 723) rfl hi1 ?_
      refine lc2_I X (d1 := 10) (n2 := 3) (n := 1) (r0 := r) (u0 := sm') (k_harms l D cA2 h2 sm (xs ((i3 + (1 : Int32))).toNatClampNeg) e2) gl_X10_harms ⟨(Nat.le_of_ble_eq_true rfl), (Nat.le_of_ble_eq_true rfl)⟩ ⟨by decide, by decide, by decide +kernel⟩ (As := [.int (xs ((i3 + (1 : Int32))).toNatClampNeg)]) rfl (Nat.le_of_ble_eq_true rfl) (Nat.le_of_ble_eq_true rfl) (fs := mF h2 (sm.1 0)) rfl rfl hce rfl dL_law_723 (q := 726) rfl ?_
      refine l_same X dL_law_726 (tgt := 1210) (by decide) ?_
      exact nx sc' sm' hRl
    refine l_tsw X dL_law_33 (z := (18 : Int32)) (tgt := 731) rfl (by decide) (by decide) (by decide) ?_ (fun hn18 => ?_)
    · skip
      obtain ⟨r, sc', sm', e1, e2, hRl⟩ := h_meets sc sm (xs ((i3 + (1 : Int32))).toNatClampNeg) hRel
      refine l_aload_n X dL_law_731 (q := 732) rfl 2 rfl ?_
      refine l_aload_n X dL_law_732 (q := 733) rfl 1 rfl ?_
      refine l_iload_n X dL_law_733 (q := 734) rfl 0 rfl ?_
      refine l_iconst X dL_law_734 (q := 735) rfl (v := (1 : Int32)) (by decide) ?_
      refine l_iadd X dL_law_735 (q := 736) rfl ?_
      refine l_sld X dL_law_736 (q := 737) rfl hi1 ?_
      refine lc1_I X (d1 := 8) (n2 := 2) (n := 1) (r0 := r) (u0 := sc') (k_X9_meets hZ l D cA cL sc (xs ((i3 + (1 : Int32))).toNatClampNeg) e1) gl_X9_meets ⟨(Nat.le_of_ble_eq_true rfl), (Nat.le_of_ble_eq_true rfl)⟩ ⟨by decide, by decide, by decide +kernel⟩ (As := [.int (xs ((i3 + (1 : Int32))).toNatClampNeg)]) rfl (Nat.le_of_ble_eq_true rfl) (Nat.le_of_ble_eq_true rfl) (fs := cF9 h 0 (sc.1 0) (sc.2 0)) (GC_9 (cA := cA) (cL := cL) sh_0 _ _) rfl hce rfl dL_law_737 (q := 740) rfl ?_
      refine l_aload_n X dL_law_740 (q := 741) rfl 3 rfl ?_
      refine l_aload_n X dL_law_741 (q := 742) rfl 1 rfl ?_
      refine l_iload_n X dL_law_742 (q := 743) rfl 0 rfl ?_
      refine l_iconst X dL_law_743 (q := 744) rfl (v := (1 : Int32)) (by decide) ?_
      refine l_iadd X dL_law_744 (q := 745) rfl ?_
      refine l_sld X dL_law_745 (q := 746) rfl hi1 ?_
      refine lc2_I X (d1 := 9) (n2 := 6) (n := 1) (r0 := r) (u0 := sm') (k_meets l D cA2 h2 sm (xs ((i3 + (1 : Int32))).toNatClampNeg) e2) gl_X10_meets ⟨(Nat.le_of_ble_eq_true rfl), (Nat.le_of_ble_eq_true rfl)⟩ ⟨by decide, by decide, by decide +kernel⟩ (As := [.int (xs ((i3 + (1 : Int32))).toNatClampNeg)]) rfl (Nat.le_of_ble_eq_true rfl) (Nat.le_of_ble_eq_true rfl) (fs := mF h2 (sm.1 0)) rfl rfl hce rfl dL_law_746 (q := 749) rfl ?_
      refine l_same X dL_law_749 (tgt := 1210) (by decide) ?_
      exact nx sc' sm' hRl
    refine l_tsw X dL_law_33 (z := (19 : Int32)) (tgt := 754) rfl (by decide) (by decide) (by decide) ?_ (fun hn19 => ?_)
    · skip
      obtain ⟨r, sc', sm', e1, e2, hRl⟩ := h_sows sc sm (xs ((i3 + (1 : Int32))).toNatClampNeg) (xs ((i3 + (2 : Int32))).toNatClampNeg) hRel
      refine l_aload_n X dL_law_754 (q := 755) rfl 2 rfl ?_
      refine l_aload_n X dL_law_755 (q := 756) rfl 1 rfl ?_
      refine l_iload_n X dL_law_756 (q := 757) rfl 0 rfl ?_
      refine l_iconst X dL_law_757 (q := 758) rfl (v := (1 : Int32)) (by decide) ?_
      refine l_iadd X dL_law_758 (q := 759) rfl ?_
      refine l_sld X dL_law_759 (q := 760) rfl hi1 ?_
      refine l_aload_n X dL_law_760 (q := 761) rfl 1 rfl ?_
      refine l_iload_n X dL_law_761 (q := 762) rfl 0 rfl ?_
      refine l_iconst X dL_law_762 (q := 763) rfl (v := (2 : Int32)) (by decide) ?_
      refine l_iadd X dL_law_763 (q := 764) rfl ?_
      refine l_sld X dL_law_764 (q := 765) rfl hi2 ?_
      refine lc1_I X (d1 := 9) (n2 := 4) (n := 2) (r0 := r) (u0 := sc') (k_X9_sows hZ l D cA cL sc (xs ((i3 + (1 : Int32))).toNatClampNeg) (xs ((i3 + (2 : Int32))).toNatClampNeg) e1) gl_X9_sows ⟨(Nat.le_of_ble_eq_true rfl), (Nat.le_of_ble_eq_true rfl)⟩ ⟨by decide, by decide, by decide +kernel⟩ (As := [.int (xs ((i3 + (1 : Int32))).toNatClampNeg), .int (xs ((i3 + (2 : Int32))).toNatClampNeg)]) rfl (Nat.le_of_ble_eq_true rfl) (Nat.le_of_ble_eq_true rfl) (fs := cF9 h 0 (sc.1 0) (sc.2 0)) (GC_9 (cA := cA) (cL := cL) sh_0 _ _) rfl hce rfl dL_law_765 (q := 768) rfl ?_
      refine l_aload_n X dL_law_768 (q := 769) rfl 3 rfl ?_
      refine l_aload_n X dL_law_769 (q := 770) rfl 1 rfl ?_
      refine l_iload_n X dL_law_770 (q := 771) rfl 0 rfl ?_
      refine l_iconst X dL_law_771 (q := 772) rfl (v := (1 : Int32)) (by decide) ?_
      refine l_iadd X dL_law_772 (q := 773) rfl ?_
      refine l_sld X dL_law_773 (q := 774) rfl hi1 ?_
      refine l_aload_n X dL_law_774 (q := 775) rfl 1 rfl ?_
      refine l_iload_n X dL_law_775 (q := 776) rfl 0 rfl ?_
      refine l_iconst X dL_law_776 (q := 777) rfl (v := (2 : Int32)) (by decide) ?_
      refine l_iadd X dL_law_777 (q := 778) rfl ?_
      refine l_sld X dL_law_778 (q := 779) rfl hi2 ?_
      refine lc2_I X (d1 := 11) (n2 := 7) (n := 2) (r0 := r) (u0 := sm') (k_sows l D cA2 h2 sm (xs ((i3 + (1 : Int32))).toNatClampNeg) (xs ((i3 + (2 : Int32))).toNatClampNeg) e2) gl_X10_sows ⟨(Nat.le_of_ble_eq_true rfl), (Nat.le_of_ble_eq_true rfl)⟩ ⟨by decide, by decide, by decide +kernel⟩ (As := [.int (xs ((i3 + (1 : Int32))).toNatClampNeg), .int (xs ((i3 + (2 : Int32))).toNatClampNeg)]) rfl (Nat.le_of_ble_eq_true rfl) (Nat.le_of_ble_eq_true rfl) (fs := mF h2 (sm.1 0)) rfl rfl hce rfl dL_law_779 (q := 782) rfl ?_
      refine l_same X dL_law_782 (tgt := 1210) (by decide) ?_
      exact nx sc' sm' hRl
    refine l_tsw X dL_law_33 (z := (20 : Int32)) (tgt := 787) rfl (by decide) (by decide) (by decide) ?_ (fun hn20 => ?_)
    · skip
      obtain ⟨r, sc', sm', e1, e2, hRl⟩ := h_gets sc sm (xs ((i3 + (1 : Int32))).toNatClampNeg) (xs ((i3 + (2 : Int32))).toNatClampNeg) (xs ((i3 + (3 : Int32))).toNatClampNeg) hRel
      refine l_aload_n X dL_law_787 (q := 788) rfl 2 rfl ?_
      refine l_aload_n X dL_law_788 (q := 789) rfl 1 rfl ?_
      refine l_iload_n X dL_law_789 (q := 790) rfl 0 rfl ?_
      refine l_iconst X dL_law_790 (q := 791) rfl (v := (1 : Int32)) (by decide) ?_
      refine l_iadd X dL_law_791 (q := 792) rfl ?_
      refine l_sld X dL_law_792 (q := 793) rfl hi1 ?_
      refine l_aload_n X dL_law_793 (q := 794) rfl 1 rfl ?_
      refine l_iload_n X dL_law_794 (q := 795) rfl 0 rfl ?_
      refine l_iconst X dL_law_795 (q := 796) rfl (v := (2 : Int32)) (by decide) ?_
      refine l_iadd X dL_law_796 (q := 797) rfl ?_
      refine l_sld X dL_law_797 (q := 798) rfl hi2 ?_
      refine l_aload_n X dL_law_798 (q := 799) rfl 1 rfl ?_
      refine l_iload_n X dL_law_799 (q := 800) rfl 0 rfl ?_
      refine l_iconst X dL_law_800 (q := 801) rfl (v := (3 : Int32)) (by decide) ?_
      refine l_iadd X dL_law_801 (q := 802) rfl ?_
      refine l_sld X dL_law_802 (q := 803) rfl hi3 ?_
      refine lc1_I X (d1 := 8) (n2 := 4) (n := 3) (r0 := r) (u0 := sc') (k_X9_gets hZ l D cA cL sc (xs ((i3 + (1 : Int32))).toNatClampNeg) (xs ((i3 + (2 : Int32))).toNatClampNeg) (xs ((i3 + (3 : Int32))).toNatClampNeg) e1) gl_X9_gets ⟨(Nat.le_of_ble_eq_true rfl), (Nat.le_of_ble_eq_true rfl)⟩ ⟨by decide, by decide, by decide +kernel⟩ (As := [.int (xs ((i3 + (1 : Int32))).toNatClampNeg), .int (xs ((i3 + (2 : Int32))).toNatClampNeg), .int (xs ((i3 + (3 : Int32))).toNatClampNeg)]) rfl (Nat.le_of_ble_eq_true rfl) (Nat.le_of_ble_eq_true rfl) (fs := cF9 h 0 (sc.1 0) (sc.2 0)) (GC_9 (cA := cA) (cL := cL) sh_0 _ _) rfl hce rfl dL_law_803 (q := 806) rfl ?_
      refine l_aload_n X dL_law_806 (q := 807) rfl 3 rfl ?_
      refine l_aload_n X dL_law_807 (q := 808) rfl 1 rfl ?_
      refine l_iload_n X dL_law_808 (q := 809) rfl 0 rfl ?_
      refine l_iconst X dL_law_809 (q := 810) rfl (v := (1 : Int32)) (by decide) ?_
      refine l_iadd X dL_law_810 (q := 811) rfl ?_
      refine l_sld X dL_law_811 (q := 812) rfl hi1 ?_
      refine l_aload_n X dL_law_812 (q := 813) rfl 1 rfl ?_
      refine l_iload_n X dL_law_813 (q := 814) rfl 0 rfl ?_
      refine l_iconst X dL_law_814 (q := 815) rfl (v := (2 : Int32)) (by decide) ?_
      refine l_iadd X dL_law_815 (q := 816) rfl ?_
      refine l_sld X dL_law_816 (q := 817) rfl hi2 ?_
      refine l_aload_n X dL_law_817 (q := 818) rfl 1 rfl ?_
      refine l_iload_n X dL_law_818 (q := 819) rfl 0 rfl ?_
      refine l_iconst X dL_law_819 (q := 820) rfl (v := (3 : Int32)) (by decide) ?_
      refine l_iadd X dL_law_820 (q := 821) rfl ?_
      refine l_sld X dL_law_821 (q := 822) rfl hi3 ?_
      refine lc2_I X (d1 := 9) (n2 := 6) (n := 3) (r0 := r) (u0 := sm') (k_gets l D cA2 h2 sm (xs ((i3 + (1 : Int32))).toNatClampNeg) (xs ((i3 + (2 : Int32))).toNatClampNeg) (xs ((i3 + (3 : Int32))).toNatClampNeg) e2) gl_X10_gets ⟨(Nat.le_of_ble_eq_true rfl), (Nat.le_of_ble_eq_true rfl)⟩ ⟨by decide, by decide, by decide +kernel⟩ (As := [.int (xs ((i3 + (1 : Int32))).toNatClampNeg), .int (xs ((i3 + (2 : Int32))).toNatClampNeg), .int (xs ((i3 + (3 : Int32))).toNatClampNeg)]) rfl (Nat.le_of_ble_eq_true rfl) (Nat.le_of_ble_eq_true rfl) (fs := mF h2 (sm.1 0)) rfl rfl hce rfl dL_law_822 (q := 825) rfl ?_
      refine l_same X dL_law_825 (tgt := 1210) (by decide) ?_
      exact nx sc' sm' hRl
    refine l_tsw X dL_law_33 (z := (21 : Int32)) (tgt := 830) rfl (by decide) (by decide) (by decide) ?_ (fun hn21 => ?_)
    · skip
      obtain ⟨r, sc', sm', e1, e2, hRl⟩ := h_weeds sc sm ((((xs ((i3 + (1 : Int32))).toNatClampNeg)).toInt64 <<< (((32 : Int32)).toInt64 &&& 63)) ||| (((xs ((i3 + (2 : Int32))).toNatClampNeg)).toInt64 &&& (4294967295 : Int64))) (xs ((i3 + (3 : Int32))).toNatClampNeg) (xs ((i3 + (4 : Int32))).toNatClampNeg) hRel
      refine l_aload_n X dL_law_830 (q := 831) rfl 2 rfl ?_
      refine l_aload_n X dL_law_831 (q := 832) rfl 1 rfl ?_
      refine l_iload_n X dL_law_832 (q := 833) rfl 0 rfl ?_
      refine l_iconst X dL_law_833 (q := 834) rfl (v := (1 : Int32)) (by decide) ?_
      refine l_iadd X dL_law_834 (q := 835) rfl ?_
      refine l_sld X dL_law_835 (q := 836) rfl hi1 ?_
      refine l_i2l X dL_law_836 (q := 837) rfl ?_
      refine l_bipush X dL_law_837 (q := 839) rfl (v := (32 : Int32)) (by decide) ?_
      refine l_lshl X dL_law_839 (q := 840) rfl ?_
      refine l_aload_n X dL_law_840 (q := 841) rfl 1 rfl ?_
      refine l_iload_n X dL_law_841 (q := 842) rfl 0 rfl ?_
      refine l_iconst X dL_law_842 (q := 843) rfl (v := (2 : Int32)) (by decide) ?_
      refine l_iadd X dL_law_843 (q := 844) rfl ?_
      refine l_sld X dL_law_844 (q := 845) rfl hi2 ?_
      refine l_i2l X dL_law_845 (q := 846) rfl ?_
      refine l_ldc2_w X dL_law_846 (q := 849) rfl (v := (4294967295 : Int64)) (gt_of 1978 (by decide +kernel) rfl) ?_
      refine l_land X dL_law_849 (q := 850) rfl ?_
      refine l_lor X dL_law_850 (q := 851) rfl ?_
      refine l_aload_n X dL_law_851 (q := 852) rfl 1 rfl ?_
      refine l_iload_n X dL_law_852 (q := 853) rfl 0 rfl ?_
      refine l_iconst X dL_law_853 (q := 854) rfl (v := (3 : Int32)) (by decide) ?_
      refine l_iadd X dL_law_854 (q := 855) rfl ?_
      refine l_sld X dL_law_855 (q := 856) rfl hi3 ?_
      refine l_aload_n X dL_law_856 (q := 857) rfl 1 rfl ?_
      refine l_iload_n X dL_law_857 (q := 858) rfl 0 rfl ?_
      refine l_iconst X dL_law_858 (q := 859) rfl (v := (4 : Int32)) (by decide) ?_
      refine l_iadd X dL_law_859 (q := 860) rfl ?_
      refine l_sld X dL_law_860 (q := 861) rfl hi4 ?_
      refine lc1_L X (d1 := 9) (n2 := 7) (n := 3) (r0 := r) (u0 := sc') (k_X9_weeds hZ l D cA cL sc ((((xs ((i3 + (1 : Int32))).toNatClampNeg)).toInt64 <<< (((32 : Int32)).toInt64 &&& 63)) ||| (((xs ((i3 + (2 : Int32))).toNatClampNeg)).toInt64 &&& (4294967295 : Int64))) (xs ((i3 + (3 : Int32))).toNatClampNeg) (xs ((i3 + (4 : Int32))).toNatClampNeg) e1) gl_X9_weeds ⟨(Nat.le_of_ble_eq_true rfl), (Nat.le_of_ble_eq_true rfl)⟩ ⟨by decide, by decide, by decide +kernel⟩ (As := [.long ((((xs ((i3 + (1 : Int32))).toNatClampNeg)).toInt64 <<< (((32 : Int32)).toInt64 &&& 63)) ||| (((xs ((i3 + (2 : Int32))).toNatClampNeg)).toInt64 &&& (4294967295 : Int64))), .int (xs ((i3 + (3 : Int32))).toNatClampNeg), .int (xs ((i3 + (4 : Int32))).toNatClampNeg)]) rfl (Nat.le_of_ble_eq_true rfl) (Nat.le_of_ble_eq_true rfl) (fs := cF9 h 0 (sc.1 0) (sc.2 0)) (GC_9 (cA := cA) (cL := cL) sh_0 _ _) rfl hce rfl dL_law_861 (q := 864) rfl ?_
      refine l_aload_n X dL_law_864 (q := 865) rfl 3 rfl ?_
      refine l_aload_n X dL_law_865 (q := 866) rfl 1 rfl ?_
      refine l_iload_n X dL_law_866 (q := 867) rfl 0 rfl ?_
      refine l_iconst X dL_law_867 (q := 868) rfl (v := (1 : Int32)) (by decide) ?_
      refine l_iadd X dL_law_868 (q := 869) rfl ?_
      refine l_sld X dL_law_869 (q := 870) rfl hi1 ?_
      refine l_i2l X dL_law_870 (q := 871) rfl ?_
      refine l_bipush X dL_law_871 (q := 873) rfl (v := (32 : Int32)) (by decide) ?_
      refine l_lshl X dL_law_873 (q := 874) rfl ?_
      refine l_aload_n X dL_law_874 (q := 875) rfl 1 rfl ?_
      refine l_iload_n X dL_law_875 (q := 876) rfl 0 rfl ?_
      refine l_iconst X dL_law_876 (q := 877) rfl (v := (2 : Int32)) (by decide) ?_
      refine l_iadd X dL_law_877 (q := 878) rfl ?_
      refine l_sld X dL_law_878 (q := 879) rfl hi2 ?_
      refine l_i2l X dL_law_879 (q := 880) rfl ?_
      refine l_ldc2_w X dL_law_880 (q := 883) rfl (v := (4294967295 : Int64)) (gt_of 1978 (by decide +kernel) rfl) ?_
      refine l_land X dL_law_883 (q := 884) rfl ?_
      refine l_lor X dL_law_884 (q := 885) rfl ?_
      refine l_aload_n X dL_law_885 (q := 886) rfl 1 rfl ?_
      refine l_iload_n X dL_law_886 (q := 887) rfl 0 rfl ?_
      refine l_iconst X dL_law_887 (q := 888) rfl (v := (3 : Int32)) (by decide) ?_
      refine l_iadd X dL_law_888 (q := 889) rfl ?_
      refine l_sld X dL_law_889 (q := 890) rfl hi3 ?_
      refine l_aload_n X dL_law_890 (q := 891) rfl 1 rfl ?_
      refine l_iload_n X dL_law_891 (q := 892) rfl 0 rfl ?_
      refine l_iconst X dL_law_892 (q := 893) rfl (v := (4 : Int32)) (by decide) ?_
      refine l_iadd X dL_law_893 (q := 894) rfl ?_
      refine l_sld X dL_law_894 (q := 895) rfl hi4 ?_
      refine lc2_L X (d1 := 10) (n2 := 10) (n := 3) (r0 := r) (u0 := sm') (k_weeds l D cA2 h2 sm ((((xs ((i3 + (1 : Int32))).toNatClampNeg)).toInt64 <<< (((32 : Int32)).toInt64 &&& 63)) ||| (((xs ((i3 + (2 : Int32))).toNatClampNeg)).toInt64 &&& (4294967295 : Int64))) (xs ((i3 + (3 : Int32))).toNatClampNeg) (xs ((i3 + (4 : Int32))).toNatClampNeg) e2) gl_X10_weeds ⟨(Nat.le_of_ble_eq_true rfl), (Nat.le_of_ble_eq_true rfl)⟩ ⟨by decide, by decide, by decide +kernel⟩ (As := [.long ((((xs ((i3 + (1 : Int32))).toNatClampNeg)).toInt64 <<< (((32 : Int32)).toInt64 &&& 63)) ||| (((xs ((i3 + (2 : Int32))).toNatClampNeg)).toInt64 &&& (4294967295 : Int64))), .int (xs ((i3 + (3 : Int32))).toNatClampNeg), .int (xs ((i3 + (4 : Int32))).toNatClampNeg)]) rfl (Nat.le_of_ble_eq_true rfl) (Nat.le_of_ble_eq_true rfl) (fs := mF h2 (sm.1 0)) rfl rfl hce rfl dL_law_895 (q := 898) rfl ?_
      refine l_sameL X dL_law_898 rfl dL_law_899 (tgt := 1210) (by decide) ?_
      exact nx sc' sm' hRl
    refine l_tsw X dL_law_33 (z := (22 : Int32)) (tgt := 904) rfl (by decide) (by decide) (by decide) ?_ (fun hn22 => ?_)
    · skip
      obtain ⟨r, sc', sm', e1, e2, hRl⟩ := h_have sc sm (xs ((i3 + (1 : Int32))).toNatClampNeg) hRel
      obtain ⟨e1, rfl⟩ := e1
      refine l_aload_n X dL_law_904 (q := 905) rfl 2 rfl ?_
      refine l_aload_n X dL_law_905 (q := 906) rfl 1 rfl ?_
      refine l_iload_n X dL_law_906 (q := 907) rfl 0 rfl ?_
      refine l_iconst X dL_law_907 (q := 908) rfl (v := (1 : Int32)) (by decide) ?_
      refine l_iadd X dL_law_908 (q := 909) rfl ?_
      refine l_sld X dL_law_909 (q := 910) rfl hi1 ?_
      refine lc1_I X (d1 := 4) (n2 := 4) (n := 1) (r0 := r) (u0 := sc') (k_X9_have hZ l D cA cL sc' (xs ((i3 + (1 : Int32))).toNatClampNeg) e1) gl_X9_have ⟨(Nat.le_of_ble_eq_true rfl), (Nat.le_of_ble_eq_true rfl)⟩ ⟨by decide, by decide, by decide +kernel⟩ (As := [.int (xs ((i3 + (1 : Int32))).toNatClampNeg)]) rfl (Nat.le_of_ble_eq_true rfl) (Nat.le_of_ble_eq_true rfl) (fs := cF9 h 0 (sc'.1 0) (sc'.2 0)) (GC_9 (cA := cA) (cL := cL) sh_0 _ _) rfl hce rfl dL_law_910 (q := 913) rfl ?_
      refine l_aload_n X dL_law_913 (q := 914) rfl 3 rfl ?_
      refine l_aload_n X dL_law_914 (q := 915) rfl 1 rfl ?_
      refine l_iload_n X dL_law_915 (q := 916) rfl 0 rfl ?_
      refine l_iconst X dL_law_916 (q := 917) rfl (v := (1 : Int32)) (by decide) ?_
      refine l_iadd X dL_law_917 (q := 918) rfl ?_
      refine l_sld X dL_law_918 (q := 919) rfl hi1 ?_
      refine lc2_I X (d1 := 2) (n2 := 3) (n := 1) (r0 := r) (u0 := sm') (k_have l D cA2 h2 sm (xs ((i3 + (1 : Int32))).toNatClampNeg) e2) gl_X10_have ⟨(Nat.le_of_ble_eq_true rfl), (Nat.le_of_ble_eq_true rfl)⟩ ⟨by decide, by decide, by decide +kernel⟩ (As := [.int (xs ((i3 + (1 : Int32))).toNatClampNeg)]) rfl (Nat.le_of_ble_eq_true rfl) (Nat.le_of_ble_eq_true rfl) (fs := mF h2 (sm.1 0)) rfl rfl hce rfl dL_law_919 (q := 922) rfl ?_
      refine l_same X dL_law_922 (tgt := 1210) (by decide) ?_
      exact nx sc' sm' hRl
    refine l_tsw X dL_law_33 (z := (23 : Int32)) (tgt := 927) rfl (by decide) (by decide) (by decide) ?_ (fun hn23 => ?_)
    · skip
      obtain ⟨r, sc', sm', e1, e2, hRl⟩ := h_generations sc sm (xs ((i3 + (1 : Int32))).toNatClampNeg) (xs ((i3 + (2 : Int32))).toNatClampNeg) hRel
      obtain ⟨e1, rfl⟩ := e1
      refine l_aload_n X dL_law_927 (q := 928) rfl 2 rfl ?_
      refine l_aload_n X dL_law_928 (q := 929) rfl 1 rfl ?_
      refine l_iload_n X dL_law_929 (q := 930) rfl 0 rfl ?_
      refine l_iconst X dL_law_930 (q := 931) rfl (v := (1 : Int32)) (by decide) ?_
      refine l_iadd X dL_law_931 (q := 932) rfl ?_
      refine l_sld X dL_law_932 (q := 933) rfl hi1 ?_
      refine l_aload_n X dL_law_933 (q := 934) rfl 1 rfl ?_
      refine l_iload_n X dL_law_934 (q := 935) rfl 0 rfl ?_
      refine l_iconst X dL_law_935 (q := 936) rfl (v := (2 : Int32)) (by decide) ?_
      refine l_iadd X dL_law_936 (q := 937) rfl ?_
      refine l_sld X dL_law_937 (q := 938) rfl hi2 ?_
      refine lc1_I X (d1 := 4) (n2 := 5) (n := 2) (r0 := r) (u0 := sc') (k_X9_generations hZ l D cA cL sc' (xs ((i3 + (1 : Int32))).toNatClampNeg) (xs ((i3 + (2 : Int32))).toNatClampNeg) e1) gl_X9_generations ⟨(Nat.le_of_ble_eq_true rfl), (Nat.le_of_ble_eq_true rfl)⟩ ⟨by decide, by decide, by decide +kernel⟩ (As := [.int (xs ((i3 + (1 : Int32))).toNatClampNeg), .int (xs ((i3 + (2 : Int32))).toNatClampNeg)]) rfl (Nat.le_of_ble_eq_true rfl) (Nat.le_of_ble_eq_true rfl) (fs := cF9 h 0 (sc'.1 0) (sc'.2 0)) (GC_9 (cA := cA) (cL := cL) sh_0 _ _) rfl hce rfl dL_law_938 (q := 941) rfl ?_
      refine l_aload_n X dL_law_941 (q := 942) rfl 3 rfl ?_
      refine l_aload_n X dL_law_942 (q := 943) rfl 1 rfl ?_
      refine l_iload_n X dL_law_943 (q := 944) rfl 0 rfl ?_
      refine l_iconst X dL_law_944 (q := 945) rfl (v := (1 : Int32)) (by decide) ?_
      refine l_iadd X dL_law_945 (q := 946) rfl ?_
      refine l_sld X dL_law_946 (q := 947) rfl hi1 ?_
      refine l_aload_n X dL_law_947 (q := 948) rfl 1 rfl ?_
      refine l_iload_n X dL_law_948 (q := 949) rfl 0 rfl ?_
      refine l_iconst X dL_law_949 (q := 950) rfl (v := (2 : Int32)) (by decide) ?_
      refine l_iadd X dL_law_950 (q := 951) rfl ?_
      refine l_sld X dL_law_951 (q := 952) rfl hi2 ?_
      refine lc2_I X (d1 := 2) (n2 := 5) (n := 2) (r0 := r) (u0 := sm') (k_generations l D cA2 h2 sm (xs ((i3 + (1 : Int32))).toNatClampNeg) (xs ((i3 + (2 : Int32))).toNatClampNeg) e2) gl_X10_generations ⟨(Nat.le_of_ble_eq_true rfl), (Nat.le_of_ble_eq_true rfl)⟩ ⟨by decide, by decide, by decide +kernel⟩ (As := [.int (xs ((i3 + (1 : Int32))).toNatClampNeg), .int (xs ((i3 + (2 : Int32))).toNatClampNeg)]) rfl (Nat.le_of_ble_eq_true rfl) (Nat.le_of_ble_eq_true rfl) (fs := mF h2 (sm.1 0)) rfl rfl hce rfl dL_law_952 (q := 955) rfl ?_
      refine l_same X dL_law_955 (tgt := 1210) (by decide) ?_
      exact nx sc' sm' hRl
    refine l_tsw X dL_law_33 (z := (24 : Int32)) (tgt := 960) rfl (by decide) (by decide) (by decide) ?_ (fun hn24 => ?_)
    · skip
      obtain ⟨r, sc', sm', e1, e2, hRl⟩ := h_who sc sm (xs ((i3 + (1 : Int32))).toNatClampNeg) (xs ((i3 + (2 : Int32))).toNatClampNeg) (xs ((i3 + (3 : Int32))).toNatClampNeg) hRel
      refine l_aload_n X dL_law_960 (q := 961) rfl 2 rfl ?_
      refine l_aload_n X dL_law_961 (q := 962) rfl 1 rfl ?_
      refine l_iload_n X dL_law_962 (q := 963) rfl 0 rfl ?_
      refine l_iconst X dL_law_963 (q := 964) rfl (v := (1 : Int32)) (by decide) ?_
      refine l_iadd X dL_law_964 (q := 965) rfl ?_
      refine l_sld X dL_law_965 (q := 966) rfl hi1 ?_
      refine l_aload_n X dL_law_966 (q := 967) rfl 1 rfl ?_
      refine l_iload_n X dL_law_967 (q := 968) rfl 0 rfl ?_
      refine l_iconst X dL_law_968 (q := 969) rfl (v := (2 : Int32)) (by decide) ?_
      refine l_iadd X dL_law_969 (q := 970) rfl ?_
      refine l_sld X dL_law_970 (q := 971) rfl hi2 ?_
      refine l_aload_n X dL_law_971 (q := 972) rfl 1 rfl ?_
      refine l_iload_n X dL_law_972 (q := 973) rfl 0 rfl ?_
      refine l_iconst X dL_law_973 (q := 974) rfl (v := (3 : Int32)) (by decide) ?_
      refine l_iadd X dL_law_974 (q := 975) rfl ?_
      refine l_sld X dL_law_975 (q := 976) rfl hi3 ?_
      refine lc1_I X (d1 := 5) (n2 := 7) (n := 3) (r0 := r) (u0 := sc') (k_X9_who hZ l D cA cL sc (xs ((i3 + (1 : Int32))).toNatClampNeg) (xs ((i3 + (2 : Int32))).toNatClampNeg) (xs ((i3 + (3 : Int32))).toNatClampNeg) e1) gl_X9_who ⟨(Nat.le_of_ble_eq_true rfl), (Nat.le_of_ble_eq_true rfl)⟩ ⟨by decide, by decide, by decide +kernel⟩ (As := [.int (xs ((i3 + (1 : Int32))).toNatClampNeg), .int (xs ((i3 + (2 : Int32))).toNatClampNeg), .int (xs ((i3 + (3 : Int32))).toNatClampNeg)]) rfl (Nat.le_of_ble_eq_true rfl) (Nat.le_of_ble_eq_true rfl) (fs := cF9 h 0 (sc.1 0) (sc.2 0)) (GC_9 (cA := cA) (cL := cL) sh_0 _ _) rfl hce rfl dL_law_976 (q := 979) rfl ?_
      refine l_aload_n X dL_law_979 (q := 980) rfl 3 rfl ?_
      refine l_aload_n X dL_law_980 (q := 981) rfl 1 rfl ?_
      refine l_iload_n X dL_law_981 (q := 982) rfl 0 rfl ?_
      refine l_iconst X dL_law_982 (q := 983) rfl (v := (1 : Int32)) (by decide) ?_
      refine l_iadd X dL_law_983 (q := 984) rfl ?_
      refine l_sld X dL_law_984 (q := 985) rfl hi1 ?_
      refine l_aload_n X dL_law_985 (q := 986) rfl 1 rfl ?_
      refine l_iload_n X dL_law_986 (q := 987) rfl 0 rfl ?_
      refine l_iconst X dL_law_987 (q := 988) rfl (v := (2 : Int32)) (by decide) ?_
      refine l_iadd X dL_law_988 (q := 989) rfl ?_
      refine l_sld X dL_law_989 (q := 990) rfl hi2 ?_
      refine l_aload_n X dL_law_990 (q := 991) rfl 1 rfl ?_
      refine l_iload_n X dL_law_991 (q := 992) rfl 0 rfl ?_
      refine l_iconst X dL_law_992 (q := 993) rfl (v := (3 : Int32)) (by decide) ?_
      refine l_iadd X dL_law_993 (q := 994) rfl ?_
      refine l_sld X dL_law_994 (q := 995) rfl hi3 ?_
      refine lc2_I X (d1 := 7) (n2 := 4) (n := 3) (r0 := r) (u0 := sm') (k_who l D cA2 h2 sm (xs ((i3 + (1 : Int32))).toNatClampNeg) (xs ((i3 + (2 : Int32))).toNatClampNeg) (xs ((i3 + (3 : Int32))).toNatClampNeg) e2) gl_X10_who ⟨(Nat.le_of_ble_eq_true rfl), (Nat.le_of_ble_eq_true rfl)⟩ ⟨by decide, by decide, by decide +kernel⟩ (As := [.int (xs ((i3 + (1 : Int32))).toNatClampNeg), .int (xs ((i3 + (2 : Int32))).toNatClampNeg), .int (xs ((i3 + (3 : Int32))).toNatClampNeg)]) rfl (Nat.le_of_ble_eq_true rfl) (Nat.le_of_ble_eq_true rfl) (fs := mF h2 (sm.1 0)) rfl rfl hce rfl dL_law_995 (q := 998) rfl ?_
      refine l_same X dL_law_998 (tgt := 1210) (by decide) ?_
      exact nx sc' sm' hRl
    refine l_tsw X dL_law_33 (z := (25 : Int32)) (tgt := 1003) rfl (by decide) (by decide) (by decide) ?_ (fun hn25 => ?_)
    · skip
      obtain ⟨r, sc', sm', e1, e2, hRl⟩ := h_calm sc sm (xs ((i3 + (1 : Int32))).toNatClampNeg) (xs ((i3 + (2 : Int32))).toNatClampNeg) (xs ((i3 + (3 : Int32))).toNatClampNeg) hRel
      refine l_aload_n X dL_law_1003 (q := 1004) rfl 2 rfl ?_
      refine l_aload_n X dL_law_1004 (q := 1005) rfl 1 rfl ?_
      refine l_iload_n X dL_law_1005 (q := 1006) rfl 0 rfl ?_
      refine l_iconst X dL_law_1006 (q := 1007) rfl (v := (1 : Int32)) (by decide) ?_
      refine l_iadd X dL_law_1007 (q := 1008) rfl ?_
      refine l_sld X dL_law_1008 (q := 1009) rfl hi1 ?_
      refine l_aload_n X dL_law_1009 (q := 1010) rfl 1 rfl ?_
      refine l_iload_n X dL_law_1010 (q := 1011) rfl 0 rfl ?_
      refine l_iconst X dL_law_1011 (q := 1012) rfl (v := (2 : Int32)) (by decide) ?_
      refine l_iadd X dL_law_1012 (q := 1013) rfl ?_
      refine l_sld X dL_law_1013 (q := 1014) rfl hi2 ?_
      refine l_aload_n X dL_law_1014 (q := 1015) rfl 1 rfl ?_
      refine l_iload_n X dL_law_1015 (q := 1016) rfl 0 rfl ?_
      refine l_iconst X dL_law_1016 (q := 1017) rfl (v := (3 : Int32)) (by decide) ?_
      refine l_iadd X dL_law_1017 (q := 1018) rfl ?_
      refine l_sld X dL_law_1018 (q := 1019) rfl hi3 ?_
      refine lc1_I X (d1 := 8) (n2 := 4) (n := 3) (r0 := r) (u0 := sc') (k_X9_calm hZ l D cA cL sc (xs ((i3 + (1 : Int32))).toNatClampNeg) (xs ((i3 + (2 : Int32))).toNatClampNeg) (xs ((i3 + (3 : Int32))).toNatClampNeg) e1) gl_X9_calm ⟨(Nat.le_of_ble_eq_true rfl), (Nat.le_of_ble_eq_true rfl)⟩ ⟨by decide, by decide, by decide +kernel⟩ (As := [.int (xs ((i3 + (1 : Int32))).toNatClampNeg), .int (xs ((i3 + (2 : Int32))).toNatClampNeg), .int (xs ((i3 + (3 : Int32))).toNatClampNeg)]) rfl (Nat.le_of_ble_eq_true rfl) (Nat.le_of_ble_eq_true rfl) (fs := cF9 h 0 (sc.1 0) (sc.2 0)) (GC_9 (cA := cA) (cL := cL) sh_0 _ _) rfl hce rfl dL_law_1019 (q := 1022) rfl ?_
      refine l_aload_n X dL_law_1022 (q := 1023) rfl 3 rfl ?_
      refine l_aload_n X dL_law_1023 (q := 1024) rfl 1 rfl ?_
      refine l_iload_n X dL_law_1024 (q := 1025) rfl 0 rfl ?_
      refine l_iconst X dL_law_1025 (q := 1026) rfl (v := (1 : Int32)) (by decide) ?_
      refine l_iadd X dL_law_1026 (q := 1027) rfl ?_
      refine l_sld X dL_law_1027 (q := 1028) rfl hi1 ?_
      refine l_aload_n X dL_law_1028 (q := 1029) rfl 1 rfl ?_
      refine l_iload_n X dL_law_1029 (q := 1030) rfl 0 rfl ?_
      refine l_iconst X dL_law_1030 (q := 1031) rfl (v := (2 : Int32)) (by decide) ?_
      refine l_iadd X dL_law_1031 (q := 1032) rfl ?_
      refine l_sld X dL_law_1032 (q := 1033) rfl hi2 ?_
      refine l_aload_n X dL_law_1033 (q := 1034) rfl 1 rfl ?_
      refine l_iload_n X dL_law_1034 (q := 1035) rfl 0 rfl ?_
      refine l_iconst X dL_law_1035 (q := 1036) rfl (v := (3 : Int32)) (by decide) ?_
      refine l_iadd X dL_law_1036 (q := 1037) rfl ?_
      refine l_sld X dL_law_1037 (q := 1038) rfl hi3 ?_
      refine lc2_I X (d1 := 9) (n2 := 8) (n := 3) (r0 := r) (u0 := sm') (k_calm l D cA2 h2 sm (xs ((i3 + (1 : Int32))).toNatClampNeg) (xs ((i3 + (2 : Int32))).toNatClampNeg) (xs ((i3 + (3 : Int32))).toNatClampNeg) e2) gl_X10_calm ⟨(Nat.le_of_ble_eq_true rfl), (Nat.le_of_ble_eq_true rfl)⟩ ⟨by decide, by decide, by decide +kernel⟩ (As := [.int (xs ((i3 + (1 : Int32))).toNatClampNeg), .int (xs ((i3 + (2 : Int32))).toNatClampNeg), .int (xs ((i3 + (3 : Int32))).toNatClampNeg)]) rfl (Nat.le_of_ble_eq_true rfl) (Nat.le_of_ble_eq_true rfl) (fs := mF h2 (sm.1 0)) rfl rfl hce rfl dL_law_1038 (q := 1041) rfl ?_
      refine l_same X dL_law_1041 (tgt := 1210) (by decide) ?_
      exact nx sc' sm' hRl
    refine l_tsw X dL_law_33 (z := (26 : Int32)) (tgt := 1046) rfl (by decide) (by decide) (by decide) ?_ (fun hn26 => ?_)
    · skip
      obtain ⟨r, sc', sm', e1, e2, hRl⟩ := h_good sc sm (xs ((i3 + (1 : Int32))).toNatClampNeg) (xs ((i3 + (2 : Int32))).toNatClampNeg) hRel
      obtain ⟨e1, rfl⟩ := e1
      refine l_aload_n X dL_law_1046 (q := 1047) rfl 2 rfl ?_
      refine l_aload_n X dL_law_1047 (q := 1048) rfl 1 rfl ?_
      refine l_iload_n X dL_law_1048 (q := 1049) rfl 0 rfl ?_
      refine l_iconst X dL_law_1049 (q := 1050) rfl (v := (1 : Int32)) (by decide) ?_
      refine l_iadd X dL_law_1050 (q := 1051) rfl ?_
      refine l_sld X dL_law_1051 (q := 1052) rfl hi1 ?_
      refine l_aload_n X dL_law_1052 (q := 1053) rfl 1 rfl ?_
      refine l_iload_n X dL_law_1053 (q := 1054) rfl 0 rfl ?_
      refine l_iconst X dL_law_1054 (q := 1055) rfl (v := (2 : Int32)) (by decide) ?_
      refine l_iadd X dL_law_1055 (q := 1056) rfl ?_
      refine l_sld X dL_law_1056 (q := 1057) rfl hi2 ?_
      refine lc1_I X (d1 := 2) (n2 := 5) (n := 2) (r0 := r) (u0 := sc') (k_X9_good hZ l D cA cL sc' (xs ((i3 + (1 : Int32))).toNatClampNeg) (xs ((i3 + (2 : Int32))).toNatClampNeg) e1) gl_X9_good ⟨(Nat.le_of_ble_eq_true rfl), (Nat.le_of_ble_eq_true rfl)⟩ ⟨by decide, by decide, by decide +kernel⟩ (As := [.int (xs ((i3 + (1 : Int32))).toNatClampNeg), .int (xs ((i3 + (2 : Int32))).toNatClampNeg)]) rfl (Nat.le_of_ble_eq_true rfl) (Nat.le_of_ble_eq_true rfl) (fs := cF9 h 0 (sc'.1 0) (sc'.2 0)) (GC_9 (cA := cA) (cL := cL) sh_0 _ _) rfl hce rfl dL_law_1057 (q := 1060) rfl ?_
      refine l_aload_n X dL_law_1060 (q := 1061) rfl 3 rfl ?_
      refine l_aload_n X dL_law_1061 (q := 1062) rfl 1 rfl ?_
      refine l_iload_n X dL_law_1062 (q := 1063) rfl 0 rfl ?_
      refine l_iconst X dL_law_1063 (q := 1064) rfl (v := (1 : Int32)) (by decide) ?_
      refine l_iadd X dL_law_1064 (q := 1065) rfl ?_
      refine l_sld X dL_law_1065 (q := 1066) rfl hi1 ?_
      refine l_aload_n X dL_law_1066 (q := 1067) rfl 1 rfl ?_
      refine l_iload_n X dL_law_1067 (q := 1068) rfl 0 rfl ?_
      refine l_iconst X dL_law_1068 (q := 1069) rfl (v := (2 : Int32)) (by decide) ?_
      refine l_iadd X dL_law_1069 (q := 1070) rfl ?_
      refine l_sld X dL_law_1070 (q := 1071) rfl hi2 ?_
      refine lc2_I X (d1 := 2) (n2 := 3) (n := 2) (r0 := r) (u0 := sm') (k_good l D cA2 h2 sm (xs ((i3 + (1 : Int32))).toNatClampNeg) (xs ((i3 + (2 : Int32))).toNatClampNeg) e2) gl_X10_good ⟨(Nat.le_of_ble_eq_true rfl), (Nat.le_of_ble_eq_true rfl)⟩ ⟨by decide, by decide, by decide +kernel⟩ (As := [.int (xs ((i3 + (1 : Int32))).toNatClampNeg), .int (xs ((i3 + (2 : Int32))).toNatClampNeg)]) rfl (Nat.le_of_ble_eq_true rfl) (Nat.le_of_ble_eq_true rfl) (fs := mF h2 (sm.1 0)) rfl rfl hce rfl dL_law_1071 (q := 1074) rfl ?_
      refine l_same X dL_law_1074 (tgt := 1210) (by decide) ?_
      exact nx sc' sm' hRl
    refine l_tsw X dL_law_33 (z := (27 : Int32)) (tgt := 1079) rfl (by decide) (by decide) (by decide) ?_ (fun hn27 => ?_)
    · skip
      obtain ⟨r, sc', sm', e1, e2, hRl⟩ := h_open sc sm (xs ((i3 + (1 : Int32))).toNatClampNeg) (xs ((i3 + (2 : Int32))).toNatClampNeg) hRel
      obtain ⟨e1, rfl⟩ := e1
      refine l_aload_n X dL_law_1079 (q := 1080) rfl 2 rfl ?_
      refine l_aload_n X dL_law_1080 (q := 1081) rfl 1 rfl ?_
      refine l_iload_n X dL_law_1081 (q := 1082) rfl 0 rfl ?_
      refine l_iconst X dL_law_1082 (q := 1083) rfl (v := (1 : Int32)) (by decide) ?_
      refine l_iadd X dL_law_1083 (q := 1084) rfl ?_
      refine l_sld X dL_law_1084 (q := 1085) rfl hi1 ?_
      refine l_aload_n X dL_law_1085 (q := 1086) rfl 1 rfl ?_
      refine l_iload_n X dL_law_1086 (q := 1087) rfl 0 rfl ?_
      refine l_iconst X dL_law_1087 (q := 1088) rfl (v := (2 : Int32)) (by decide) ?_
      refine l_iadd X dL_law_1088 (q := 1089) rfl ?_
      refine l_sld X dL_law_1089 (q := 1090) rfl hi2 ?_
      refine lc1_I X (d1 := 2) (n2 := 10) (n := 2) (r0 := r) (u0 := sc') (k_X9_open hZ l D cA cL sc' (xs ((i3 + (1 : Int32))).toNatClampNeg) (xs ((i3 + (2 : Int32))).toNatClampNeg) e1) gl_X9_open ⟨(Nat.le_of_ble_eq_true rfl), (Nat.le_of_ble_eq_true rfl)⟩ ⟨by decide, by decide, by decide +kernel⟩ (As := [.int (xs ((i3 + (1 : Int32))).toNatClampNeg), .int (xs ((i3 + (2 : Int32))).toNatClampNeg)]) rfl (Nat.le_of_ble_eq_true rfl) (Nat.le_of_ble_eq_true rfl) (fs := cF9 h 0 (sc'.1 0) (sc'.2 0)) (GC_9 (cA := cA) (cL := cL) sh_0 _ _) rfl hce rfl dL_law_1090 (q := 1093) rfl ?_
      refine l_aload_n X dL_law_1093 (q := 1094) rfl 3 rfl ?_
      refine l_aload_n X dL_law_1094 (q := 1095) rfl 1 rfl ?_
      refine l_iload_n X dL_law_1095 (q := 1096) rfl 0 rfl ?_
      refine l_iconst X dL_law_1096 (q := 1097) rfl (v := (1 : Int32)) (by decide) ?_
      refine l_iadd X dL_law_1097 (q := 1098) rfl ?_
      refine l_sld X dL_law_1098 (q := 1099) rfl hi1 ?_
      refine l_aload_n X dL_law_1099 (q := 1100) rfl 1 rfl ?_
      refine l_iload_n X dL_law_1100 (q := 1101) rfl 0 rfl ?_
      refine l_iconst X dL_law_1101 (q := 1102) rfl (v := (2 : Int32)) (by decide) ?_
      refine l_iadd X dL_law_1102 (q := 1103) rfl ?_
      refine l_sld X dL_law_1103 (q := 1104) rfl hi2 ?_
      refine lc2_I X (d1 := 2) (n2 := 9) (n := 2) (r0 := r) (u0 := sm') (k_open l D cA2 h2 sm (xs ((i3 + (1 : Int32))).toNatClampNeg) (xs ((i3 + (2 : Int32))).toNatClampNeg) e2) gl_X10_open ⟨(Nat.le_of_ble_eq_true rfl), (Nat.le_of_ble_eq_true rfl)⟩ ⟨by decide, by decide, by decide +kernel⟩ (As := [.int (xs ((i3 + (1 : Int32))).toNatClampNeg), .int (xs ((i3 + (2 : Int32))).toNatClampNeg)]) rfl (Nat.le_of_ble_eq_true rfl) (Nat.le_of_ble_eq_true rfl) (fs := mF h2 (sm.1 0)) rfl rfl hce rfl dL_law_1104 (q := 1107) rfl ?_
      refine l_same X dL_law_1107 (tgt := 1210) (by decide) ?_
      exact nx sc' sm' hRl
    refine l_tsw X dL_law_33 (z := (28 : Int32)) (tgt := 1112) rfl (by decide) (by decide) (by decide) ?_ (fun hn28 => ?_)
    · skip
      obtain ⟨r, sc', sm', e1, e2, hRl⟩ := h_game sc sm (xs ((i3 + (1 : Int32))).toNatClampNeg) hRel
      obtain ⟨e1, rfl⟩ := e1
      refine l_aload_n X dL_law_1112 (q := 1113) rfl 2 rfl ?_
      refine l_aload_n X dL_law_1113 (q := 1114) rfl 1 rfl ?_
      refine l_iload_n X dL_law_1114 (q := 1115) rfl 0 rfl ?_
      refine l_iconst X dL_law_1115 (q := 1116) rfl (v := (1 : Int32)) (by decide) ?_
      refine l_iadd X dL_law_1116 (q := 1117) rfl ?_
      refine l_sld X dL_law_1117 (q := 1118) rfl hi1 ?_
      refine lc1_I X (d1 := 3) (n2 := 5) (n := 1) (r0 := r) (u0 := sc') (k_X9_game hZ l D cA cL sc' (xs ((i3 + (1 : Int32))).toNatClampNeg) e1) gl_X9_game ⟨(Nat.le_of_ble_eq_true rfl), (Nat.le_of_ble_eq_true rfl)⟩ ⟨by decide, by decide, by decide +kernel⟩ (As := [.int (xs ((i3 + (1 : Int32))).toNatClampNeg)]) rfl (Nat.le_of_ble_eq_true rfl) (Nat.le_of_ble_eq_true rfl) (fs := cF9 h 0 (sc'.1 0) (sc'.2 0)) (GC_9 (cA := cA) (cL := cL) sh_0 _ _) rfl hce rfl dL_law_1118 (q := 1121) rfl ?_
      refine l_aload_n X dL_law_1121 (q := 1122) rfl 3 rfl ?_
      refine l_aload_n X dL_law_1122 (q := 1123) rfl 1 rfl ?_
      refine l_iload_n X dL_law_1123 (q := 1124) rfl 0 rfl ?_
      refine l_iconst X dL_law_1124 (q := 1125) rfl (v := (1 : Int32)) (by decide) ?_
      refine l_iadd X dL_law_1125 (q := 1126) rfl ?_
      refine l_sld X dL_law_1126 (q := 1127) rfl hi1 ?_
      refine lc2_I X (d1 := 3) (n2 := 4) (n := 1) (r0 := r) (u0 := sm') (k_game l D cA2 h2 sm (xs ((i3 + (1 : Int32))).toNatClampNeg) e2) gl_X10_game ⟨(Nat.le_of_ble_eq_true rfl), (Nat.le_of_ble_eq_true rfl)⟩ ⟨by decide, by decide, by decide +kernel⟩ (As := [.int (xs ((i3 + (1 : Int32))).toNatClampNeg)]) rfl (Nat.le_of_ble_eq_true rfl) (Nat.le_of_ble_eq_true rfl) (fs := mF h2 (sm.1 0)) rfl rfl hce rfl dL_law_1127 (q := 1130) rfl ?_
      refine l_same X dL_law_1130 (tgt := 1210) (by decide) ?_
      exact nx sc' sm' hRl
    refine l_tsw X dL_law_33 (z := (29 : Int32)) (tgt := 1135) rfl (by decide) (by decide) (by decide) ?_ (fun hn29 => ?_)
    · skip
      obtain ⟨r, sc', sm', e1, e2, hRl⟩ := h_undo sc sm hRel
      refine l_aload_n X dL_law_1135 (q := 1136) rfl 2 rfl ?_
      refine lc1_I X (d1 := 4) (n2 := 1) (n := 0) (r0 := r) (u0 := sc') (k_X9_undo hZ l D cA cL sc e1) gl_X9_undo ⟨(Nat.le_of_ble_eq_true rfl), (Nat.le_of_ble_eq_true rfl)⟩ ⟨by decide, by decide, by decide +kernel⟩ (As := []) rfl (Nat.le_of_ble_eq_true rfl) (Nat.le_of_ble_eq_true rfl) (fs := cF9 h 0 (sc.1 0) (sc.2 0)) (GC_9 (cA := cA) (cL := cL) sh_0 _ _) rfl hce rfl dL_law_1136 (q := 1139) rfl ?_
      refine l_aload_n X dL_law_1139 (q := 1140) rfl 3 rfl ?_
      refine lc2_I X (d1 := 1) (n2 := 2) (n := 0) (r0 := r) (u0 := sm') (k_undo l D cA2 h2 sm e2) gl_X10_undo ⟨(Nat.le_of_ble_eq_true rfl), (Nat.le_of_ble_eq_true rfl)⟩ ⟨by decide, by decide, by decide +kernel⟩ (As := []) rfl (Nat.le_of_ble_eq_true rfl) (Nat.le_of_ble_eq_true rfl) (fs := mF h2 (sm.1 0)) rfl rfl hce rfl dL_law_1140 (q := 1143) rfl ?_
      refine l_same X dL_law_1143 (tgt := 1210) (by decide) ?_
      exact nx sc' sm' hRl
    refine l_tsw X dL_law_33 (z := (30 : Int32)) (tgt := 1148) rfl (by decide) (by decide) (by decide) ?_ (fun hn30 => ?_)
    · skip
      by_cases hz : xs (i3 + (1 : Int32)).toNatClampNeg = 0
      · skip
        obtain ⟨r, sc', sm', e1, e2, hRl⟩ := h_image sc sm (0 : Int32) hRel (Or.inl rfl)
        refine l_aload_n X dL_law_1148 (q := 1149) rfl 2 rfl ?_
        refine l_aload_n X dL_law_1149 (q := 1150) rfl 1 rfl ?_
        refine l_iload_n X dL_law_1150 (q := 1151) rfl 0 rfl ?_
        refine l_iconst X dL_law_1151 (q := 1152) rfl (v := (1 : Int32)) (by decide) ?_
        refine l_iadd X dL_law_1152 (q := 1153) rfl ?_
        refine l_sld X dL_law_1153 (q := 1154) rfl hi1 ?_
        refine l_ifeq X dL_law_1154 (q := 1157) rfl (tgt := 1161) (by decide) (fun _ => ?_) (fun h => absurd hz h)
        refine l_iconst X dL_law_1161 (q := 1162) rfl (v := (0 : Int32)) (by decide) ?_
        refine lc1_I X (d1 := 5) (n2 := 2) (n := 1) (r0 := r) (u0 := sc') (k_X9_image hZ l D cA cL sc (0 : Int32) e1) gl_X9_image ⟨(Nat.le_of_ble_eq_true rfl), (Nat.le_of_ble_eq_true rfl)⟩ ⟨by decide, by decide, by decide +kernel⟩ (As := [.int (0 : Int32)]) rfl (Nat.le_of_ble_eq_true rfl) (Nat.le_of_ble_eq_true rfl) (fs := cF9 h 0 (sc.1 0) (sc.2 0)) (GC_9 (cA := cA) (cL := cL) sh_0 _ _) rfl hce rfl dL_law_1162 (q := 1165) rfl ?_
        refine l_aload_n X dL_law_1165 (q := 1166) rfl 3 rfl ?_
        refine l_aload_n X dL_law_1166 (q := 1167) rfl 1 rfl ?_
        refine l_iload_n X dL_law_1167 (q := 1168) rfl 0 rfl ?_
        refine l_iconst X dL_law_1168 (q := 1169) rfl (v := (1 : Int32)) (by decide) ?_
        refine l_iadd X dL_law_1169 (q := 1170) rfl ?_
        refine l_sld X dL_law_1170 (q := 1171) rfl hi1 ?_
        refine l_ifeq X dL_law_1171 (q := 1174) rfl (tgt := 1178) (by decide) (fun _ => ?_) (fun h => absurd hz h)
        refine l_iconst X dL_law_1178 (q := 1179) rfl (v := (0 : Int32)) (by decide) ?_
        refine lc2_I X (d1 := 3) (n2 := 3) (n := 1) (r0 := r) (u0 := sm') (k_image l D cA2 h2 sm (0 : Int32) e2) gl_X10_image ⟨(Nat.le_of_ble_eq_true rfl), (Nat.le_of_ble_eq_true rfl)⟩ ⟨by decide, by decide, by decide +kernel⟩ (As := [.int (0 : Int32)]) rfl (Nat.le_of_ble_eq_true rfl) (Nat.le_of_ble_eq_true rfl) (fs := mF h2 (sm.1 0)) rfl rfl hce rfl dL_law_1179 (q := 1182) rfl ?_
        refine l_same X dL_law_1182 (tgt := 1210) (by decide) ?_
        exact nx sc' sm' hRl
      · skip
        obtain ⟨r, sc', sm', e1, e2, hRl⟩ := h_image sc sm (1 : Int32) hRel (Or.inr rfl)
        refine l_aload_n X dL_law_1148 (q := 1149) rfl 2 rfl ?_
        refine l_aload_n X dL_law_1149 (q := 1150) rfl 1 rfl ?_
        refine l_iload_n X dL_law_1150 (q := 1151) rfl 0 rfl ?_
        refine l_iconst X dL_law_1151 (q := 1152) rfl (v := (1 : Int32)) (by decide) ?_
        refine l_iadd X dL_law_1152 (q := 1153) rfl ?_
        refine l_sld X dL_law_1153 (q := 1154) rfl hi1 ?_
        refine l_ifeq X dL_law_1154 (q := 1157) rfl (tgt := 1161) (by decide) (fun h => absurd h hz) (fun _ => ?_)
        refine l_iconst X dL_law_1157 (q := 1158) rfl (v := (1 : Int32)) (by decide) ?_
        refine l_goto X dL_law_1158 (tgt := 1162) (by decide) ?_
        refine lc1_I X (d1 := 5) (n2 := 2) (n := 1) (r0 := r) (u0 := sc') (k_X9_image hZ l D cA cL sc (1 : Int32) e1) gl_X9_image ⟨(Nat.le_of_ble_eq_true rfl), (Nat.le_of_ble_eq_true rfl)⟩ ⟨by decide, by decide, by decide +kernel⟩ (As := [.int (1 : Int32)]) rfl (Nat.le_of_ble_eq_true rfl) (Nat.le_of_ble_eq_true rfl) (fs := cF9 h 0 (sc.1 0) (sc.2 0)) (GC_9 (cA := cA) (cL := cL) sh_0 _ _) rfl hce rfl dL_law_1162 (q := 1165) rfl ?_
        refine l_aload_n X dL_law_1165 (q := 1166) rfl 3 rfl ?_
        refine l_aload_n X dL_law_1166 (q := 1167) rfl 1 rfl ?_
        refine l_iload_n X dL_law_1167 (q := 1168) rfl 0 rfl ?_
        refine l_iconst X dL_law_1168 (q := 1169) rfl (v := (1 : Int32)) (by decide) ?_
        refine l_iadd X dL_law_1169 (q := 1170) rfl ?_
        refine l_sld X dL_law_1170 (q := 1171) rfl hi1 ?_
        refine l_ifeq X dL_law_1171 (q := 1174) rfl (tgt := 1178) (by decide) (fun h => absurd h hz) (fun _ => ?_)
        refine l_iconst X dL_law_1174 (q := 1175) rfl (v := (1 : Int32)) (by decide) ?_
        refine l_goto X dL_law_1175 (tgt := 1179) (by decide) ?_
        refine lc2_I X (d1 := 3) (n2 := 3) (n := 1) (r0 := r) (u0 := sm') (k_image l D cA2 h2 sm (1 : Int32) e2) gl_X10_image ⟨(Nat.le_of_ble_eq_true rfl), (Nat.le_of_ble_eq_true rfl)⟩ ⟨by decide, by decide, by decide +kernel⟩ (As := [.int (1 : Int32)]) rfl (Nat.le_of_ble_eq_true rfl) (Nat.le_of_ble_eq_true rfl) (fs := mF h2 (sm.1 0)) rfl rfl hce rfl dL_law_1179 (q := 1182) rfl ?_
        refine l_same X dL_law_1182 (tgt := 1210) (by decide) ?_
        exact nx sc' sm' hRl
    refine l_tsw X dL_law_33 (z := (31 : Int32)) (tgt := 1187) rfl (by decide) (by decide) (by decide) ?_ (fun hn31 => ?_)
    · skip
      obtain ⟨r, sc', sm', e1, e2, hRl⟩ := h_look sc sm (xs ((i3 + (1 : Int32))).toNatClampNeg) hRel
      obtain ⟨e1, rfl⟩ := e1
      refine l_aload_n X dL_law_1187 (q := 1188) rfl 2 rfl ?_
      refine l_aload_n X dL_law_1188 (q := 1189) rfl 1 rfl ?_
      refine l_iload_n X dL_law_1189 (q := 1190) rfl 0 rfl ?_
      refine l_iconst X dL_law_1190 (q := 1191) rfl (v := (1 : Int32)) (by decide) ?_
      refine l_iadd X dL_law_1191 (q := 1192) rfl ?_
      refine l_sld X dL_law_1192 (q := 1193) rfl hi1 ?_
      refine lc1_I X (d1 := 2) (n2 := 2) (n := 1) (r0 := r) (u0 := sc') (by have q := k_X9_look hZ l D cA cL sc' (xs ((i3 + (1 : Int32))).toNatClampNeg); rw [e1] at q; exact q) gl_X9_look ⟨(Nat.le_of_ble_eq_true rfl), (Nat.le_of_ble_eq_true rfl)⟩ ⟨by decide, by decide, by decide +kernel⟩ (As := [.int (xs ((i3 + (1 : Int32))).toNatClampNeg)]) rfl (Nat.le_of_ble_eq_true rfl) (Nat.le_of_ble_eq_true rfl) (fs := cF9 h 0 (sc'.1 0) (sc'.2 0)) (GC_9 (cA := cA) (cL := cL) sh_0 _ _) rfl hce rfl dL_law_1193 (q := 1196) rfl ?_
      refine l_aload_n X dL_law_1196 (q := 1197) rfl 3 rfl ?_
      refine l_aload_n X dL_law_1197 (q := 1198) rfl 1 rfl ?_
      refine l_iload_n X dL_law_1198 (q := 1199) rfl 0 rfl ?_
      refine l_iconst X dL_law_1199 (q := 1200) rfl (v := (1 : Int32)) (by decide) ?_
      refine l_iadd X dL_law_1200 (q := 1201) rfl ?_
      refine l_sld X dL_law_1201 (q := 1202) rfl hi1 ?_
      refine lc2_I X (d1 := 2) (n2 := 2) (n := 1) (r0 := r) (u0 := sm') (k_look l D cA2 h2 sm (xs ((i3 + (1 : Int32))).toNatClampNeg) e2) gl_X10_look ⟨(Nat.le_of_ble_eq_true rfl), (Nat.le_of_ble_eq_true rfl)⟩ ⟨by decide, by decide, by decide +kernel⟩ (As := [.int (xs ((i3 + (1 : Int32))).toNatClampNeg)]) rfl (Nat.le_of_ble_eq_true rfl) (Nat.le_of_ble_eq_true rfl) (fs := mF h2 (sm.1 0)) rfl rfl hce rfl dL_law_1202 (q := 1205) rfl ?_
      refine l_same X dL_law_1205 (tgt := 1210) (by decide) ?_
      exact nx sc' sm' hRl
    refine l_tswO X dL_law_33 (tgt := 1210) (by have t0 := tsw_ne hn0 (k := 0) (by decide); have t1 := tsw_ne hn1 (k := 1) (by decide); have t2 := tsw_ne hn2 (k := 2) (by decide); have t3 := tsw_ne hn3 (k := 3) (by decide); have t4 := tsw_ne hn4 (k := 4) (by decide); have t5 := tsw_ne hn5 (k := 5) (by decide); have t6 := tsw_ne hn6 (k := 6) (by decide); have t7 := tsw_ne hn7 (k := 7) (by decide); have t8 := tsw_ne hn8 (k := 8) (by decide); have t9 := tsw_ne hn9 (k := 9) (by decide); have t10 := tsw_ne hn10 (k := 10) (by decide); have t11 := tsw_ne hn11 (k := 11) (by decide); have t12 := tsw_ne hn12 (k := 12) (by decide); have t13 := tsw_ne hn13 (k := 13) (by decide); have t14 := tsw_ne hn14 (k := 14) (by decide); have t15 := tsw_ne hn15 (k := 15) (by decide); have t16 := tsw_ne hn16 (k := 16) (by decide); have t17 := tsw_ne hn17 (k := 17) (by decide); have t18 := tsw_ne hn18 (k := 18) (by decide); have t19 := tsw_ne hn19 (k := 19) (by decide); have t20 := tsw_ne hn20 (k := 20) (by decide); have t21 := tsw_ne hn21 (k := 21) (by decide); have t22 := tsw_ne hn22 (k := 22) (by decide); have t23 := tsw_ne hn23 (k := 23) (by decide); have t24 := tsw_ne hn24 (k := 24) (by decide); have t25 := tsw_ne hn25 (k := 25) (by decide); have t26 := tsw_ne hn26 (k := 26) (by decide); have t27 := tsw_ne hn27 (k := 27) (by decide); have t28 := tsw_ne hn28 (k := 28) (by decide); have t29 := tsw_ne hn29 (k := 29) (by decide); have t30 := tsw_ne hn30 (k := 30) (by decide); have t31 := tsw_ne hn31 (k := 31) (by decide); omega) (by decide) ?_
    exact nx sc sm hRel
