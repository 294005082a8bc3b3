/-! The law's loop: calls that may throw. -/
theorem zl_cmp (v : Int64) : lg_cmp v v = 0 := (lg_cmp_eq v v).mpr rfl
theorem zl_cmp2 (f : Nat → Int64) (v : Int64) : lg_cmp (vp_updL f (0 : Int32).toNatClampNeg v (0 : Int32).toNatClampNeg) v = 0 := by
  have e : vp_updL f (0 : Int32).toNatClampNeg v (0 : Int32).toNatClampNeg = v := if_pos rfl
  rw [e]
  exact zl_cmp v
section
variable {p : Program} {l : Launch} {e : Env} {s : State} {m : MethodId} {below : List Frame} {meth : Method} {c : Code} {g : za_G} {E : za_E} {o d ad : Nat → Nat} {h ob b L j : Nat} {xs : Nat → Int32} {N : zc_N} {M : zm_M} {f : Nat → Int64} {H : Heap} {locs : List Loc} {cells slots : Nat} {ls : Array Slot}
set_option maxHeartbeats 4000000 in
set_option maxRecDepth 100000 in
theorem zl_c5 (C : za_H p s m #[Value.ref b] c cL_law 8 RL g E (fun q : Nat => s.heap.size ≤ q)) (hX : zx_env (fun q : Nat => s.heap.size ≤ q) s s.heap) (hl0 : l.stackTraces = false) (hXs : va_X b L xs s s.heap) (hbl : b < s.heap.size) (hj : 6 * j + 6 ≤ L) (hL : L ≤ 3072) (hok : zl_ok g o h ad ob s j d N M f H locs cells slots) (hl : lv_has ls 8 [(0, .ref b), (1, .ref (o 8)), (2, .ref h), (3, .ref ob), (4, .int (nI (6 * j)))])
    (kk : ∀ (d : Nat → Nat) (N : zc_N) (M : zm_M) (f : Nat → Int64) (H : Heap) (locs : List Loc) (cells slots : Nat) (ls : Array Slot), zl_ok g o h ad ob s (j + 1) d N M f H locs cells slots → lv_has ls 8 [(0, .ref b), (1, .ref (o 8)), (2, .ref h), (3, .ref ob), (4, .int (nI (6 * j)))] → W p l e room_1 s m #[Value.ref b] below meth c H locs cells slots (lw_Z below #[Value.ref b] s) (F0 m 541 ls [])) :
    W p l e room_1 s m #[Value.ref b] below meth c H locs cells slots (lw_Z below #[Value.ref b] s) (F0 m 237 ls []) := by
  obtain ⟨hx, hb, hml, hown, hts, hK, hA, hE⟩ := id C
  have hbA : ¬ (fun q : Nat => s.heap.size ≤ q) b := Nat.not_le.mpr hbl
  obtain ⟨hR9, hcl, hsl, hP, hD, hS⟩ := hok
  obtain ⟨⟨n, t, k, hR, hn⟩, hd⟩ := id hR9
  have hI := hR.1
  have hLe := zc_L_le hI
  have hT : zm_T M := zm_T_at hR.2.2.1.2.1 hR.2.2.1.2.2.1
  refine lv_aload_n hx hb dL_law_237 rfl (lv_at hl 1 rfl) ?_
  refine lv_aload_n hx hb dL_law_238 rfl (lv_at hl 0 rfl) ?_
  refine lv_iload hx hb dL_law_239 (lv_at hl 4 rfl) ?_
  refine lv_iconst (v := 1) hx hb dL_law_241 (by decide) ?_
  refine lv_iadd hx hb dL_law_242 ?_
  refine va_sld hx hb hXs hbl hbA hS (zl_in hj hL (k := 1) (by decide) rfl) dL_law_243 ?_
  refine lv_aload_n hx hb dL_law_244 rfl (lv_at hl 0 rfl) ?_
  refine lv_iload hx hb dL_law_245 (lv_at hl 4 rfl) ?_
  refine lv_iconst (v := 2) hx hb dL_law_247 (by decide) ?_
  refine lv_iadd hx hb dL_law_248 ?_
  refine va_sld hx hb hXs hbl hbA hS (zl_in hj hL (k := 2) (by decide) rfl) dL_law_249 ?_
  refine lv_aload_n hx hb dL_law_250 rfl (lv_at hl 3 rfl) ?_
  refine za_ci (wc := zc_ws g o d N ++ [zy_o g ob f]) (wr := zm_ws g h ad M) C hP hD hS [0, 1, 2, 3, 4, 5, 6, 7, 8, 9, 10, 11, 12, 13, 14, 15, 16, 35] [17, 18, 19, 20, 21, 22, 23, 24, 25, 26, 27, 28, 29, 30, 31, 32, 33, 34] rfl rfl (by decide) (by decide) (zl_runSW (k := 4) C hX hP hD hS [0, 1, 2, 3, 4, 5, 6, 7, 8, 9, 10, 11, 12, 13, 14, 15, 16, 35] rfl (by decide) rfl (kL_token l hl0 g E o d N ob f (xs (nI (6 * j) + 1).toNatClampNeg) (xs (nI (6 * j) + 2).toNatClampNeg) hI) w_671 zl_cw1 w_56 w_672 ⟨by decide, by decide, by decide +kernel⟩ rfl hl.1 rfl (Nat.le_of_ble_eq_true rfl) dL_law_251 ⟨Nat.le_of_ble_eq_true rfl, Nat.le_of_ble_eq_true rfl⟩ ⟨by show cells + 1 ≤ 601024; omega, by show slots + 6 ≤ 7293033; omega⟩) (fun r1 u1 H locs hr1 hP hD hS => ?_)
  refine lv_istore (lv' := [(5, .int r1), (0, .ref b), (1, .ref (o 8)), (2, .ref h), (3, .ref ob), (4, .int (nI (6 * j)))]) hx hb dL_law_254 hl (by decide) rfl (fun ls hl => ?_)
  refine lv_aload_n hx hb dL_law_256 rfl (lv_at hl 3 rfl) ?_
  refine lv_aload_n hx hb dL_law_257 rfl (lv_at hl 1 rfl) ?_
  refine lv_iload hx hb dL_law_258 (lv_at hl 5 rfl) ?_
  refine lv_iconst (v := 1) hx hb dL_law_260 (by decide) ?_
  refine lv_iadd hx hb dL_law_261 ?_
  refine va_sld hx hb hXs hbl hbA hS (zl_in hj hL (k := 1) (by decide) rfl) dL_law_262 ?_
  refine lv_aload_n hx hb dL_law_263 rfl (lv_at hl 1 rfl) ?_
  refine lv_iload hx hb dL_law_264 (lv_at hl 5 rfl) ?_
  refine lv_iconst (v := 2) hx hb dL_law_266 (by decide) ?_
  refine lv_iadd hx hb dL_law_267 ?_
  refine va_sld hx hb hXs hbl hbA hS (zl_in hj hL (k := 2) (by decide) rfl) dL_law_268 ?_
  obtain ⟨N1, f1⟩ := u1
  rcases hr1 with ⟨c1, rfl, hu⟩ | ⟨c1, rfl, hu⟩
  · obtain ⟨hN1, hf1⟩ := Prod.mk.inj hu
    have hz := zp_token hR (xs (nI (6 * j) + 1).toNatClampNeg) (xs (nI (6 * j) + 2).toNatClampNeg)
    refine za_ci (wc := zm_ws g h ad M) (wr := zc_ws g o d (N1) ++ [zy_o g ob (f1)]) C hP hD hS [0, 1, 2, 3, 4, 5, 6, 7, 8, 9, 10, 11, 12, 13, 14, 15, 16, 17] [18, 19, 20, 21, 22, 23, 24, 25, 26, 27, 28, 29, 30, 31, 32, 33, 34, 35] rfl rfl (by decide) (by decide) (za_runV C hP hD hS [0, 1, 2, 3, 4, 5, 6, 7, 8, 9, 10, 11, 12, 13, 14, 15, 16, 17] rfl (by decide) rfl (kX10_token_ l g E h ad M (xs (nI (6 * j) + 1).toNatClampNeg) (xs (nI (6 * j) + 2).toNatClampNeg) hT) w_1110 mX10_token_ 0 rfl rfl rfl rfl hl.1 rfl (Nat.le_of_ble_eq_true rfl) dL_law_269 ⟨Nat.le_of_ble_eq_true rfl, Nat.le_of_ble_eq_true rfl⟩ ⟨by show cells + 1 + 0 ≤ 601024; omega, by show slots + 6 + 0 ≤ 7293033; omega⟩) (fun r2 M2 H locs hr2 hP hD hS => ?_)
    obtain ⟨hr2, hM2⟩ := hr2
    refine lv_istore (lv' := [(6, .int r2), (5, .int 1), (0, .ref b), (1, .ref (o 8)), (2, .ref h), (3, .ref ob), (4, .int (nI (6 * j)))]) hx hb dL_law_272 hl (by decide) rfl (fun ls hl => ?_)
    refine lv_aload_n hx hb dL_law_274 rfl (lv_at hl 4 rfl) ?_
    refine za_ci (wc := zm_ws g h ad M2) (wr := zc_ws g o d (N1) ++ [zy_o g ob (f1)]) C hP hD hS [18, 19, 20, 21, 22, 23, 24, 25, 26, 27, 28, 29, 30, 31, 32, 33, 34, 35] [0, 1, 2, 3, 4, 5, 6, 7, 8, 9, 10, 11, 12, 13, 14, 15, 16, 17] rfl rfl (by decide) (by decide) (za_runV C hP hD hS [18, 19, 20, 21, 22, 23, 24, 25, 26, 27, 28, 29, 30, 31, 32, 33, 34, 35] rfl (by decide) rfl (kX10_thrown l g E h ad M2) w_945 mX10_thrown 18 rfl rfl rfl rfl hl.1 rfl (Nat.le_of_ble_eq_true rfl) dL_law_275 ⟨Nat.le_of_ble_eq_true rfl, Nat.le_of_ble_eq_true rfl⟩ ⟨by show cells + 1 + 0 + 0 ≤ 601024; omega, by show slots + 6 + 0 + 0 ≤ 7293033; omega⟩) (fun r3 _ H locs hr3 hP hD hS => ?_)
    refine lv_iload hx hb dL_law_278 (lv_at hl 1 rfl) ?_
    have hthr : M2.1 0 = 1 := by
      rw [hM2]
      rcases zm_tok_s (M := M) (k := (xs (nI (6 * j) + 1).toNatClampNeg)) (w := (xs (nI (6 * j) + 2).toNatClampNeg)) with ⟨z1, z2⟩ | ⟨z1, z2⟩
      · rw [z2]; rfl
      · exact absurd (hz.1.mp c1) z1
    refine lv_icmp_eq (tgt := 285) hx hb dL_law_280 (by decide) (fun _ => ?_) (fun ce => absurd (hr3.trans hthr) ce)
    refine lv_iload hx hb dL_law_285 (lv_at hl 1 rfl) ?_
    refine lv_if_ne (tgt := 302) hx hb dL_law_287 (by decide) (fun _ => ?_) (fun ce => absurd ce (by decide))
    refine lv_goto (tgt := 541) hx hb dL_law_302 (by decide) ?_
    exact kk d (N1) (M2) (f1) H locs _ _ ls ⟨(show zl_R N1 M2 (j + 1) from by rw [hN1]; rcases zm_tok_s (M := M) (k := (xs (nI (6 * j) + 1).toNatClampNeg)) (w := (xs (nI (6 * j) + 2).toNatClampNeg)) with ⟨-, z⟩ | ⟨-, z⟩ <;> rw [hM2, z] <;> exact hR9.same _), by rw [hN1]; omega, by rw [hN1]; omega, hP.sub (ws' := zl_w g o d (N1) h ad (M2) ob (f1)) [0, 1, 2, 3, 4, 5, 6, 7, 8, 9, 10, 11, 12, 13, 14, 15, 16, 18, 19, 20, 21, 22, 23, 24, 25, 26, 27, 28, 29, 30, 31, 32, 33, 34, 35, 17] rfl, hD.sub (ws' := zl_w g o d (N1) h ad (M2) ob (f1)) [0, 1, 2, 3, 4, 5, 6, 7, 8, 9, 10, 11, 12, 13, 14, 15, 16, 18, 19, 20, 21, 22, 23, 24, 25, 26, 27, 28, 29, 30, 31, 32, 33, 34, 35, 17] (by decide) rfl, hS⟩ (lv_sub hl [2, 3, 4, 5, 6] rfl)
  · obtain ⟨hN1, hf1⟩ := Prod.mk.inj hu
    have hz := zp_token hR (xs (nI (6 * j) + 1).toNatClampNeg) (xs (nI (6 * j) + 2).toNatClampNeg)
    refine za_ci (wc := zm_ws g h ad M) (wr := zc_ws g o d (N1) ++ [zy_o g ob (f1)]) C hP hD hS [0, 1, 2, 3, 4, 5, 6, 7, 8, 9, 10, 11, 12, 13, 14, 15, 16, 17] [18, 19, 20, 21, 22, 23, 24, 25, 26, 27, 28, 29, 30, 31, 32, 33, 34, 35] rfl rfl (by decide) (by decide) (za_runV C hP hD hS [0, 1, 2, 3, 4, 5, 6, 7, 8, 9, 10, 11, 12, 13, 14, 15, 16, 17] rfl (by decide) rfl (kX10_token_ l g E h ad M (xs (nI (6 * j) + 1).toNatClampNeg) (xs (nI (6 * j) + 2).toNatClampNeg) hT) w_1110 mX10_token_ 0 rfl rfl rfl rfl hl.1 rfl (Nat.le_of_ble_eq_true rfl) dL_law_269 ⟨Nat.le_of_ble_eq_true rfl, Nat.le_of_ble_eq_true rfl⟩ ⟨by show cells + 1 + 0 ≤ 601024; omega, by show slots + 6 + 0 ≤ 7293033; omega⟩) (fun r2 M2 H locs hr2 hP hD hS => ?_)
    obtain ⟨hr2, hM2⟩ := hr2
    refine lv_istore (lv' := [(6, .int r2), (5, .int 0), (0, .ref b), (1, .ref (o 8)), (2, .ref h), (3, .ref ob), (4, .int (nI (6 * j)))]) hx hb dL_law_272 hl (by decide) rfl (fun ls hl => ?_)
    refine lv_aload_n hx hb dL_law_274 rfl (lv_at hl 4 rfl) ?_
    refine za_ci (wc := zm_ws g h ad M2) (wr := zc_ws g o d (N1) ++ [zy_o g ob (f1)]) C hP hD hS [18, 19, 20, 21, 22, 23, 24, 25, 26, 27, 28, 29, 30, 31, 32, 33, 34, 35] [0, 1, 2, 3, 4, 5, 6, 7, 8, 9, 10, 11, 12, 13, 14, 15, 16, 17] rfl rfl (by decide) (by decide) (za_runV C hP hD hS [18, 19, 20, 21, 22, 23, 24, 25, 26, 27, 28, 29, 30, 31, 32, 33, 34, 35] rfl (by decide) rfl (kX10_thrown l g E h ad M2) w_945 mX10_thrown 18 rfl rfl rfl rfl hl.1 rfl (Nat.le_of_ble_eq_true rfl) dL_law_275 ⟨Nat.le_of_ble_eq_true rfl, Nat.le_of_ble_eq_true rfl⟩ ⟨by show cells + 1 + 0 + 0 ≤ 601024; omega, by show slots + 6 + 0 + 0 ≤ 7293033; omega⟩) (fun r3 _ H locs hr3 hP hD hS => ?_)
    refine lv_iload hx hb dL_law_278 (lv_at hl 1 rfl) ?_
    have hthr : M2.1 0 = 0 := by
      rw [hM2]
      rcases zm_tok_s (M := M) (k := (xs (nI (6 * j) + 1).toNatClampNeg)) (w := (xs (nI (6 * j) + 2).toNatClampNeg)) with ⟨z1, z2⟩ | ⟨z1, z2⟩
      · exact absurd (hz.1.mpr z1) c1
      · rw [z2]; rfl
    have hval := hz.2 c1
    refine lv_icmp_eq (tgt := 285) hx hb dL_law_280 (by decide) (fun _ => ?_) (fun ce => absurd (hr3.trans hthr) ce)
    refine lv_iload hx hb dL_law_285 (lv_at hl 1 rfl) ?_
    refine lv_if_ne (tgt := 302) hx hb dL_law_287 (by decide) (fun ce => absurd rfl ce) (fun _ => ?_)
    refine lv_aload_n hx hb dL_law_290 rfl (lv_at hl 5 rfl) ?_
    refine lv_iconst (v := 0) hx hb dL_law_291 (by decide) ?_
    refine va_lald (f := f1) hx hb hK hP 17 2 rfl rfl (vp_in_nI (n := 0) (by decide) (by decide)) dL_law_292 ?_
    refine lv_iload hx hb dL_law_293 (lv_at hl 0 rfl) ?_
    refine lv_i2l (v := r2.toInt64) hx hb dL_law_295 rfl ?_
    refine W.lcmp hx hb dL_law_296 ?_
    refine lv_if_eq (tgt := 302) hx hb dL_law_297 (by decide) (fun _ => ?_) (fun ce => absurd (by rw [hr2, ← hval, hf1]; exact zl_cmp2 _ _) ce)
    refine lv_goto (tgt := 541) hx hb dL_law_302 (by decide) ?_
    exact kk d (N1) (M2) (f1) H locs _ _ ls ⟨(show zl_R N1 M2 (j + 1) from by rw [hN1]; rcases zm_tok_s (M := M) (k := (xs (nI (6 * j) + 1).toNatClampNeg)) (w := (xs (nI (6 * j) + 2).toNatClampNeg)) with ⟨-, z⟩ | ⟨-, z⟩ <;> rw [hM2, z] <;> exact hR9.same _), by rw [hN1]; omega, by rw [hN1]; omega, hP.sub (ws' := zl_w g o d (N1) h ad (M2) ob (f1)) [0, 1, 2, 3, 4, 5, 6, 7, 8, 9, 10, 11, 12, 13, 14, 15, 16, 18, 19, 20, 21, 22, 23, 24, 25, 26, 27, 28, 29, 30, 31, 32, 33, 34, 35, 17] rfl, hD.sub (ws' := zl_w g o d (N1) h ad (M2) ob (f1)) [0, 1, 2, 3, 4, 5, 6, 7, 8, 9, 10, 11, 12, 13, 14, 15, 16, 18, 19, 20, 21, 22, 23, 24, 25, 26, 27, 28, 29, 30, 31, 32, 33, 34, 35, 17] (by decide) rfl, hS⟩ (lv_sub hl [2, 3, 4, 5, 6] rfl)
set_option maxHeartbeats 4000000 in
set_option maxRecDepth 100000 in
theorem zl_c6 (C : za_H p s m #[Value.ref b] c cL_law 8 RL g E (fun q : Nat => s.heap.size ≤ q)) (hX : zx_env (fun q : Nat => s.heap.size ≤ q) s s.heap) (hl0 : l.stackTraces = false) (hXs : va_X b L xs s s.heap) (hbl : b < s.heap.size) (hj : 6 * j + 6 ≤ L) (hL : L ≤ 3072) (hok : zl_ok g o h ad ob s j d N M f H locs cells slots) (hl : lv_has ls 8 [(0, .ref b), (1, .ref (o 8)), (2, .ref h), (3, .ref ob), (4, .int (nI (6 * j)))])
    (kk : ∀ (d : Nat → Nat) (N : zc_N) (M : zm_M) (f : Nat → Int64) (H : Heap) (locs : List Loc) (cells slots : Nat) (ls : Array Slot), zl_ok g o h ad ob s (j + 1) d N M f H locs cells slots → lv_has ls 8 [(0, .ref b), (1, .ref (o 8)), (2, .ref h), (3, .ref ob), (4, .int (nI (6 * j)))] → W p l e room_1 s m #[Value.ref b] below meth c H locs cells slots (lw_Z below #[Value.ref b] s) (F0 m 541 ls [])) :
    W p l e room_1 s m #[Value.ref b] below meth c H locs cells slots (lw_Z below #[Value.ref b] s) (F0 m 305 ls []) := by
  obtain ⟨hx, hb, hml, hown, hts, hK, hA, hE⟩ := id C
  have hbA : ¬ (fun q : Nat => s.heap.size ≤ q) b := Nat.not_le.mpr hbl
  obtain ⟨hR9, hcl, hsl, hP, hD, hS⟩ := hok
  obtain ⟨⟨n, t, k, hR, hn⟩, hd⟩ := id hR9
  have hI := hR.1
  have hLe := zc_L_le hI
  have hT : zm_T M := zm_T_at hR.2.2.1.2.1 hR.2.2.1.2.2.1
  refine lv_aload_n hx hb dL_law_305 rfl (lv_at hl 1 rfl) ?_
  refine lv_aload_n hx hb dL_law_306 rfl (lv_at hl 0 rfl) ?_
  refine lv_iload hx hb dL_law_307 (lv_at hl 4 rfl) ?_
  refine lv_iconst (v := 1) hx hb dL_law_309 (by decide) ?_
  refine lv_iadd hx hb dL_law_310 ?_
  refine va_sld hx hb hXs hbl hbA hS (zl_in hj hL (k := 1) (by decide) rfl) dL_law_311 ?_
  refine lv_aload_n hx hb dL_law_312 rfl (lv_at hl 0 rfl) ?_
  refine lv_iload hx hb dL_law_313 (lv_at hl 4 rfl) ?_
  refine lv_iconst (v := 2) hx hb dL_law_315 (by decide) ?_
  refine lv_iadd hx hb dL_law_316 ?_
  refine va_sld hx hb hXs hbl hbA hS (zl_in hj hL (k := 2) (by decide) rfl) dL_law_317 ?_
  refine lv_aload_n hx hb dL_law_318 rfl (lv_at hl 3 rfl) ?_
  refine za_ci (wc := zc_ws g o d N ++ [zy_o g ob f]) (wr := zm_ws g h ad M) C hP hD hS [0, 1, 2, 3, 4, 5, 6, 7, 8, 9, 10, 11, 12, 13, 14, 15, 16, 35] [17, 18, 19, 20, 21, 22, 23, 24, 25, 26, 27, 28, 29, 30, 31, 32, 33, 34] rfl rfl (by decide) (by decide) (zl_runSW (k := 4) C hX hP hD hS [0, 1, 2, 3, 4, 5, 6, 7, 8, 9, 10, 11, 12, 13, 14, 15, 16, 35] rfl (by decide) rfl (kL_byteOf l hl0 g E o d N ob f (xs (nI (6 * j) + 1).toNatClampNeg) (xs (nI (6 * j) + 2).toNatClampNeg) hI) w_746 zl_cw2 w_56 w_747 ⟨by decide, by decide, by decide +kernel⟩ rfl hl.1 rfl (Nat.le_of_ble_eq_true rfl) dL_law_319 ⟨Nat.le_of_ble_eq_true rfl, Nat.le_of_ble_eq_true rfl⟩ ⟨by show cells + 1 ≤ 601024; omega, by show slots + 6 ≤ 7293033; omega⟩) (fun r1 u1 H locs hr1 hP hD hS => ?_)
  refine lv_istore (lv' := [(5, .int r1), (0, .ref b), (1, .ref (o 8)), (2, .ref h), (3, .ref ob), (4, .int (nI (6 * j)))]) hx hb dL_law_322 hl (by decide) rfl (fun ls hl => ?_)
  refine lv_aload_n hx hb dL_law_324 rfl (lv_at hl 3 rfl) ?_
  refine lv_aload_n hx hb dL_law_325 rfl (lv_at hl 1 rfl) ?_
  refine lv_iload hx hb dL_law_326 (lv_at hl 5 rfl) ?_
  refine lv_iconst (v := 1) hx hb dL_law_328 (by decide) ?_
  refine lv_iadd hx hb dL_law_329 ?_
  refine va_sld hx hb hXs hbl hbA hS (zl_in hj hL (k := 1) (by decide) rfl) dL_law_330 ?_
  refine lv_aload_n hx hb dL_law_331 rfl (lv_at hl 1 rfl) ?_
  refine lv_iload hx hb dL_law_332 (lv_at hl 5 rfl) ?_
  refine lv_iconst (v := 2) hx hb dL_law_334 (by decide) ?_
  refine lv_iadd hx hb dL_law_335 ?_
  refine va_sld hx hb hXs hbl hbA hS (zl_in hj hL (k := 2) (by decide) rfl) dL_law_336 ?_
  obtain ⟨N1, f1⟩ := u1
  rcases hr1 with ⟨c1, rfl, hu⟩ | ⟨c1, rfl, hu⟩
  · obtain ⟨hN1, hf1⟩ := Prod.mk.inj hu
    have hz := zp_byteOf hR (xs (nI (6 * j) + 1).toNatClampNeg) (xs (nI (6 * j) + 2).toNatClampNeg)
    have hin : ¬ (xs (nI (6 * j) + 1).toNatClampNeg) < 0 → (xs (nI (6 * j) + 1).toNatClampNeg) < M.1 3 → ¬ (xs (nI (6 * j) + 2).toNatClampNeg) < 0 → (xs (nI (6 * j) + 2).toNatClampNeg) < M.2.1 13 (xs (nI (6 * j) + 1).toNatClampNeg).toNatClampNeg → vp_in (M.2.1 12 (xs (nI (6 * j) + 1).toNatClampNeg).toNatClampNeg + (xs (nI (6 * j) + 2).toNatClampNeg)) 65536 := by
      intro z1 z2 z3 z4
      obtain ⟨k9, y1, y2, y3, y4⟩ := zp_at hR (x := (xs (nI (6 * j) + 1).toNatClampNeg)) (fun z => by rcases z with z | z; exact z1 z; exact z z2)
      obtain ⟨-, ⟨qq, ww, uu, a1, a2, a3, a4, a5, -, -⟩, -, -⟩ := y4
      obtain ⟨i9, i1, i2⟩ := nI_of z3
      rw [y3, nI_clamp (by omega)] at z4 ⊢
      rw [a2, i2] at z4
      have := z_lit i1 (by omega) z4
      rw [a1, i2, nI_add]
      exact vp_in_nI (by omega) (by omega)
    refine za_ci (wc := zm_ws g h ad M) (wr := zc_ws g o d (N1) ++ [zy_o g ob (f1)]) C hP hD hS [0, 1, 2, 3, 4, 5, 6, 7, 8, 9, 10, 11, 12, 13, 14, 15, 16, 17] [18, 19, 20, 21, 22, 23, 24, 25, 26, 27, 28, 29, 30, 31, 32, 33, 34, 35] rfl rfl (by decide) (by decide) (za_runV C hP hD hS [0, 1, 2, 3, 4, 5, 6, 7, 8, 9, 10, 11, 12, 13, 14, 15, 16, 17] rfl (by decide) rfl (kX10_byteOf l g E h ad M (xs (nI (6 * j) + 1).toNatClampNeg) (xs (nI (6 * j) + 2).toNatClampNeg) hT hin) w_1118 mX10_byteOf 0 rfl rfl rfl rfl hl.1 rfl (Nat.le_of_ble_eq_true rfl) dL_law_337 ⟨Nat.le_of_ble_eq_true rfl, Nat.le_of_ble_eq_true rfl⟩ ⟨by show cells + 1 + 0 ≤ 601024; omega, by show slots + 6 + 0 ≤ 7293033; omega⟩) (fun r2 M2 H locs hr2 hP hD hS => ?_)
    obtain ⟨hr2, hM2⟩ := hr2
    refine lv_istore (lv' := [(6, .int r2), (5, .int 1), (0, .ref b), (1, .ref (o 8)), (2, .ref h), (3, .ref ob), (4, .int (nI (6 * j)))]) hx hb dL_law_340 hl (by decide) rfl (fun ls hl => ?_)
    refine lv_aload_n hx hb dL_law_342 rfl (lv_at hl 4 rfl) ?_
    refine za_ci (wc := zm_ws g h ad M2) (wr := zc_ws g o d (N1) ++ [zy_o g ob (f1)]) C hP hD hS [18, 19, 20, 21, 22, 23, 24, 25, 26, 27, 28, 29, 30, 31, 32, 33, 34, 35] [0, 1, 2, 3, 4, 5, 6, 7, 8, 9, 10, 11, 12, 13, 14, 15, 16, 17] rfl rfl (by decide) (by decide) (za_runV C hP hD hS [18, 19, 20, 21, 22, 23, 24, 25, 26, 27, 28, 29, 30, 31, 32, 33, 34, 35] rfl (by decide) rfl (kX10_thrown l g E h ad M2) w_945 mX10_thrown 18 rfl rfl rfl rfl hl.1 rfl (Nat.le_of_ble_eq_true rfl) dL_law_343 ⟨Nat.le_of_ble_eq_true rfl, Nat.le_of_ble_eq_true rfl⟩ ⟨by show cells + 1 + 0 + 0 ≤ 601024; omega, by show slots + 6 + 0 + 0 ≤ 7293033; omega⟩) (fun r3 _ H locs hr3 hP hD hS => ?_)
    refine lv_iload hx hb dL_law_346 (lv_at hl 1 rfl) ?_
    have hthr : M2.1 0 = 1 := by
      rw [hM2]
      rcases zm_byt_s (M := M) (k := (xs (nI (6 * j) + 1).toNatClampNeg)) (i := (xs (nI (6 * j) + 2).toNatClampNeg)) with ⟨z1, z2⟩ | ⟨z1, z2⟩
      · rw [z2]; rfl
      · exact absurd (hz.1.mp c1) z1
    refine lv_icmp_eq (tgt := 353) hx hb dL_law_348 (by decide) (fun _ => ?_) (fun ce => absurd (hr3.trans hthr) ce)
    refine lv_iload hx hb dL_law_353 (lv_at hl 1 rfl) ?_
    refine lv_if_ne (tgt := 370) hx hb dL_law_355 (by decide) (fun _ => ?_) (fun ce => absurd ce (by decide))
    refine lv_goto (tgt := 541) hx hb dL_law_370 (by decide) ?_
    exact kk d (N1) (M2) (f1) H locs _ _ ls ⟨(show zl_R N1 M2 (j + 1) from by rw [hN1]; rcases zm_byt_s (M := M) (k := (xs (nI (6 * j) + 1).toNatClampNeg)) (i := (xs (nI (6 * j) + 2).toNatClampNeg)) with ⟨-, z⟩ | ⟨-, z⟩ <;> rw [hM2, z] <;> exact hR9.same _), by rw [hN1]; omega, by rw [hN1]; omega, hP.sub (ws' := zl_w g o d (N1) h ad (M2) ob (f1)) [0, 1, 2, 3, 4, 5, 6, 7, 8, 9, 10, 11, 12, 13, 14, 15, 16, 18, 19, 20, 21, 22, 23, 24, 25, 26, 27, 28, 29, 30, 31, 32, 33, 34, 35, 17] rfl, hD.sub (ws' := zl_w g o d (N1) h ad (M2) ob (f1)) [0, 1, 2, 3, 4, 5, 6, 7, 8, 9, 10, 11, 12, 13, 14, 15, 16, 18, 19, 20, 21, 22, 23, 24, 25, 26, 27, 28, 29, 30, 31, 32, 33, 34, 35, 17] (by decide) rfl, hS⟩ (lv_sub hl [2, 3, 4, 5, 6] rfl)
  · obtain ⟨hN1, hf1⟩ := Prod.mk.inj hu
    have hz := zp_byteOf hR (xs (nI (6 * j) + 1).toNatClampNeg) (xs (nI (6 * j) + 2).toNatClampNeg)
    have hin : ¬ (xs (nI (6 * j) + 1).toNatClampNeg) < 0 → (xs (nI (6 * j) + 1).toNatClampNeg) < M.1 3 → ¬ (xs (nI (6 * j) + 2).toNatClampNeg) < 0 → (xs (nI (6 * j) + 2).toNatClampNeg) < M.2.1 13 (xs (nI (6 * j) + 1).toNatClampNeg).toNatClampNeg → vp_in (M.2.1 12 (xs (nI (6 * j) + 1).toNatClampNeg).toNatClampNeg + (xs (nI (6 * j) + 2).toNatClampNeg)) 65536 := by
      intro z1 z2 z3 z4
      obtain ⟨k9, y1, y2, y3, y4⟩ := zp_at hR (x := (xs (nI (6 * j) + 1).toNatClampNeg)) (fun z => by rcases z with z | z; exact z1 z; exact z z2)
      obtain ⟨-, ⟨qq, ww, uu, a1, a2, a3, a4, a5, -, -⟩, -, -⟩ := y4
      obtain ⟨i9, i1, i2⟩ := nI_of z3
      rw [y3, nI_clamp (by omega)] at z4 ⊢
      rw [a2, i2] at z4
      have := z_lit i1 (by omega) z4
      rw [a1, i2, nI_add]
      exact vp_in_nI (by omega) (by omega)
    refine za_ci (wc := zm_ws g h ad M) (wr := zc_ws g o d (N1) ++ [zy_o g ob (f1)]) C hP hD hS [0, 1, 2, 3, 4, 5, 6, 7, 8, 9, 10, 11, 12, 13, 14, 15, 16, 17] [18, 19, 20, 21, 22, 23, 24, 25, 26, 27, 28, 29, 30, 31, 32, 33, 34, 35] rfl rfl (by decide) (by decide) (za_runV C hP hD hS [0, 1, 2, 3, 4, 5, 6, 7, 8, 9, 10, 11, 12, 13, 14, 15, 16, 17] rfl (by decide) rfl (kX10_byteOf l g E h ad M (xs (nI (6 * j) + 1).toNatClampNeg) (xs (nI (6 * j) + 2).toNatClampNeg) hT hin) w_1118 mX10_byteOf 0 rfl rfl rfl rfl hl.1 rfl (Nat.le_of_ble_eq_true rfl) dL_law_337 ⟨Nat.le_of_ble_eq_true rfl, Nat.le_of_ble_eq_true rfl⟩ ⟨by show cells + 1 + 0 ≤ 601024; omega, by show slots + 6 + 0 ≤ 7293033; omega⟩) (fun r2 M2 H locs hr2 hP hD hS => ?_)
    obtain ⟨hr2, hM2⟩ := hr2
    refine lv_istore (lv' := [(6, .int r2), (5, .int 0), (0, .ref b), (1, .ref (o 8)), (2, .ref h), (3, .ref ob), (4, .int (nI (6 * j)))]) hx hb dL_law_340 hl (by decide) rfl (fun ls hl => ?_)
    refine lv_aload_n hx hb dL_law_342 rfl (lv_at hl 4 rfl) ?_
    refine za_ci (wc := zm_ws g h ad M2) (wr := zc_ws g o d (N1) ++ [zy_o g ob (f1)]) C hP hD hS [18, 19, 20, 21, 22, 23, 24, 25, 26, 27, 28, 29, 30, 31, 32, 33, 34, 35] [0, 1, 2, 3, 4, 5, 6, 7, 8, 9, 10, 11, 12, 13, 14, 15, 16, 17] rfl rfl (by decide) (by decide) (za_runV C hP hD hS [18, 19, 20, 21, 22, 23, 24, 25, 26, 27, 28, 29, 30, 31, 32, 33, 34, 35] rfl (by decide) rfl (kX10_thrown l g E h ad M2) w_945 mX10_thrown 18 rfl rfl rfl rfl hl.1 rfl (Nat.le_of_ble_eq_true rfl) dL_law_343 ⟨Nat.le_of_ble_eq_true rfl, Nat.le_of_ble_eq_true rfl⟩ ⟨by show cells + 1 + 0 + 0 ≤ 601024; omega, by show slots + 6 + 0 + 0 ≤ 7293033; omega⟩) (fun r3 _ H locs hr3 hP hD hS => ?_)
    refine lv_iload hx hb dL_law_346 (lv_at hl 1 rfl) ?_
    have hthr : M2.1 0 = 0 := by
      rw [hM2]
      rcases zm_byt_s (M := M) (k := (xs (nI (6 * j) + 1).toNatClampNeg)) (i := (xs (nI (6 * j) + 2).toNatClampNeg)) with ⟨z1, z2⟩ | ⟨z1, z2⟩
      · exact absurd (hz.1.mpr z1) c1
      · rw [z2]; rfl
    have hval := hz.2 c1
    refine lv_icmp_eq (tgt := 353) hx hb dL_law_348 (by decide) (fun _ => ?_) (fun ce => absurd (hr3.trans hthr) ce)
    refine lv_iload hx hb dL_law_353 (lv_at hl 1 rfl) ?_
    refine lv_if_ne (tgt := 370) hx hb dL_law_355 (by decide) (fun ce => absurd rfl ce) (fun _ => ?_)
    refine lv_aload_n hx hb dL_law_358 rfl (lv_at hl 5 rfl) ?_
    refine lv_iconst (v := 0) hx hb dL_law_359 (by decide) ?_
    refine va_lald (f := f1) hx hb hK hP 17 2 rfl rfl (vp_in_nI (n := 0) (by decide) (by decide)) dL_law_360 ?_
    refine lv_iload hx hb dL_law_361 (lv_at hl 0 rfl) ?_
    refine lv_i2l (v := r2.toInt64) hx hb dL_law_363 rfl ?_
    refine W.lcmp hx hb dL_law_364 ?_
    refine lv_if_eq (tgt := 370) hx hb dL_law_365 (by decide) (fun _ => ?_) (fun ce => absurd (by rw [hr2, ← hval, hf1]; exact zl_cmp2 _ _) ce)
    refine lv_goto (tgt := 541) hx hb dL_law_370 (by decide) ?_
    exact kk d (N1) (M2) (f1) H locs _ _ ls ⟨(show zl_R N1 M2 (j + 1) from by rw [hN1]; rcases zm_byt_s (M := M) (k := (xs (nI (6 * j) + 1).toNatClampNeg)) (i := (xs (nI (6 * j) + 2).toNatClampNeg)) with ⟨-, z⟩ | ⟨-, z⟩ <;> rw [hM2, z] <;> exact hR9.same _), by rw [hN1]; omega, by rw [hN1]; omega, hP.sub (ws' := zl_w g o d (N1) h ad (M2) ob (f1)) [0, 1, 2, 3, 4, 5, 6, 7, 8, 9, 10, 11, 12, 13, 14, 15, 16, 18, 19, 20, 21, 22, 23, 24, 25, 26, 27, 28, 29, 30, 31, 32, 33, 34, 35, 17] rfl, hD.sub (ws' := zl_w g o d (N1) h ad (M2) ob (f1)) [0, 1, 2, 3, 4, 5, 6, 7, 8, 9, 10, 11, 12, 13, 14, 15, 16, 18, 19, 20, 21, 22, 23, 24, 25, 26, 27, 28, 29, 30, 31, 32, 33, 34, 35, 17] (by decide) rfl, hS⟩ (lv_sub hl [2, 3, 4, 5, 6] rfl)
set_option maxHeartbeats 4000000 in
set_option maxRecDepth 100000 in
theorem zl_c7 (C : za_H p s m #[Value.ref b] c cL_law 8 RL g E (fun q : Nat => s.heap.size ≤ q)) (hX : zx_env (fun q : Nat => s.heap.size ≤ q) s s.heap) (hl0 : l.stackTraces = false) (hXs : va_X b L xs s s.heap) (hbl : b < s.heap.size) (hj : 6 * j + 6 ≤ L) (hL : L ≤ 3072) (hok : zl_ok g o h ad ob s j d N M f H locs cells slots) (hl : lv_has ls 8 [(0, .ref b), (1, .ref (o 8)), (2, .ref h), (3, .ref ob), (4, .int (nI (6 * j)))])
    (kk : ∀ (d : Nat → Nat) (N : zc_N) (M : zm_M) (f : Nat → Int64) (H : Heap) (locs : List Loc) (cells slots : Nat) (ls : Array Slot), zl_ok g o h ad ob s (j + 1) d N M f H locs cells slots → lv_has ls 8 [(0, .ref b), (1, .ref (o 8)), (2, .ref h), (3, .ref ob), (4, .int (nI (6 * j)))] → W p l e room_1 s m #[Value.ref b] below meth c H locs cells slots (lw_Z below #[Value.ref b] s) (F0 m 541 ls [])) :
    W p l e room_1 s m #[Value.ref b] below meth c H locs cells slots (lw_Z below #[Value.ref b] s) (F0 m 373 ls []) := by
  obtain ⟨hx, hb, hml, hown, hts, hK, hA, hE⟩ := id C
  have hbA : ¬ (fun q : Nat => s.heap.size ≤ q) b := Nat.not_le.mpr hbl
  obtain ⟨hR9, hcl, hsl, hP, hD, hS⟩ := hok
  obtain ⟨⟨n, t, k, hR, hn⟩, hd⟩ := id hR9
  have hI := hR.1
  have hLe := zc_L_le hI
  have hT : zm_T M := zm_T_at hR.2.2.1.2.1 hR.2.2.1.2.2.1
  refine lv_aload_n hx hb dL_law_373 rfl (lv_at hl 1 rfl) ?_
  refine lv_aload_n hx hb dL_law_374 rfl (lv_at hl 0 rfl) ?_
  refine lv_iload hx hb dL_law_375 (lv_at hl 4 rfl) ?_
  refine lv_iconst (v := 1) hx hb dL_law_377 (by decide) ?_
  refine lv_iadd hx hb dL_law_378 ?_
  refine va_sld hx hb hXs hbl hbA hS (zl_in hj hL (k := 1) (by decide) rfl) dL_law_379 ?_
  refine lv_aload_n hx hb dL_law_380 rfl (lv_at hl 3 rfl) ?_
  refine za_ci (wc := zc_ws g o d N ++ [zy_o g ob f]) (wr := zm_ws g h ad M) C hP hD hS [0, 1, 2, 3, 4, 5, 6, 7, 8, 9, 10, 11, 12, 13, 14, 15, 16, 35] [17, 18, 19, 20, 21, 22, 23, 24, 25, 26, 27, 28, 29, 30, 31, 32, 33, 34] rfl rfl (by decide) (by decide) (zl_runSW (k := 3) C hX hP hD hS [0, 1, 2, 3, 4, 5, 6, 7, 8, 9, 10, 11, 12, 13, 14, 15, 16, 35] rfl (by decide) rfl (kL_number l hl0 g E o d N ob f (xs (nI (6 * j) + 1).toNatClampNeg) hI) w_760 zl_cw3 w_56 w_761 ⟨by decide, by decide, by decide +kernel⟩ rfl hl.1 rfl (Nat.le_of_ble_eq_true rfl) dL_law_381 ⟨Nat.le_of_ble_eq_true rfl, Nat.le_of_ble_eq_true rfl⟩ ⟨by show cells + 1 ≤ 601024; omega, by show slots + 6 ≤ 7293033; omega⟩) (fun r1 u1 H locs hr1 hP hD hS => ?_)
  refine lv_istore (lv' := [(5, .int r1), (0, .ref b), (1, .ref (o 8)), (2, .ref h), (3, .ref ob), (4, .int (nI (6 * j)))]) hx hb dL_law_384 hl (by decide) rfl (fun ls hl => ?_)
  refine lv_aload_n hx hb dL_law_386 rfl (lv_at hl 3 rfl) ?_
  refine lv_aload_n hx hb dL_law_387 rfl (lv_at hl 1 rfl) ?_
  refine lv_iload hx hb dL_law_388 (lv_at hl 5 rfl) ?_
  refine lv_iconst (v := 1) hx hb dL_law_390 (by decide) ?_
  refine lv_iadd hx hb dL_law_391 ?_
  refine va_sld hx hb hXs hbl hbA hS (zl_in hj hL (k := 1) (by decide) rfl) dL_law_392 ?_
  obtain ⟨N1, f1⟩ := u1
  rcases hr1 with ⟨c1, rfl, hu⟩ | ⟨c1, rfl, hu⟩
  · obtain ⟨hN1, hf1⟩ := Prod.mk.inj hu
    have hz := zp_number hR (xs (nI (6 * j) + 1).toNatClampNeg)
    refine za_cl (wc := zm_ws g h ad M) (wr := zc_ws g o d (N1) ++ [zy_o g ob (f1)]) C hP hD hS [0, 1, 2, 3, 4, 5, 6, 7, 8, 9, 10, 11, 12, 13, 14, 15, 16, 17] [18, 19, 20, 21, 22, 23, 24, 25, 26, 27, 28, 29, 30, 31, 32, 33, 34, 35] rfl rfl (by decide) (by decide) (za_runV C hP hD hS [0, 1, 2, 3, 4, 5, 6, 7, 8, 9, 10, 11, 12, 13, 14, 15, 16, 17] rfl (by decide) rfl (kX10_number_ l g E h ad M (xs (nI (6 * j) + 1).toNatClampNeg) hT) w_1122 mX10_number_ 0 rfl rfl rfl rfl hl.1 rfl (Nat.le_of_ble_eq_true rfl) dL_law_393 ⟨Nat.le_of_ble_eq_true rfl, Nat.le_of_ble_eq_true rfl⟩ ⟨by show cells + 1 + 0 ≤ 601024; omega, by show slots + 6 + 0 ≤ 7293033; omega⟩) (fun r2 M2 H locs hr2 hP hD hS => ?_)
    obtain ⟨hr2, hM2⟩ := hr2
    refine lv_lstore (lv' := [(6, .long r2), (5, .int 1), (0, .ref b), (1, .ref (o 8)), (2, .ref h), (3, .ref ob), (4, .int (nI (6 * j)))]) hx hb dL_law_396 hl (by decide) rfl (fun ls hl => ?_)
    refine lv_aload_n hx hb dL_law_398 rfl (lv_at hl 4 rfl) ?_
    refine za_ci (wc := zm_ws g h ad M2) (wr := zc_ws g o d (N1) ++ [zy_o g ob (f1)]) C hP hD hS [18, 19, 20, 21, 22, 23, 24, 25, 26, 27, 28, 29, 30, 31, 32, 33, 34, 35] [0, 1, 2, 3, 4, 5, 6, 7, 8, 9, 10, 11, 12, 13, 14, 15, 16, 17] rfl rfl (by decide) (by decide) (za_runV C hP hD hS [18, 19, 20, 21, 22, 23, 24, 25, 26, 27, 28, 29, 30, 31, 32, 33, 34, 35] rfl (by decide) rfl (kX10_thrown l g E h ad M2) w_945 mX10_thrown 18 rfl rfl rfl rfl hl.1 rfl (Nat.le_of_ble_eq_true rfl) dL_law_399 ⟨Nat.le_of_ble_eq_true rfl, Nat.le_of_ble_eq_true rfl⟩ ⟨by show cells + 1 + 0 + 0 ≤ 601024; omega, by show slots + 6 + 0 + 0 ≤ 7293033; omega⟩) (fun r3 _ H locs hr3 hP hD hS => ?_)
    refine lv_iload hx hb dL_law_402 (lv_at hl 1 rfl) ?_
    have hthr : M2.1 0 = 1 := by
      rw [hM2]
      rcases zm_num_s (M := M) (k := (xs (nI (6 * j) + 1).toNatClampNeg)) with ⟨z1, z2⟩ | ⟨z1, z2⟩
      · rw [z2]; rfl
      · exact absurd (hz.1.mp c1) z1
    refine lv_icmp_eq (tgt := 409) hx hb dL_law_404 (by decide) (fun _ => ?_) (fun ce => absurd (hr3.trans hthr) ce)
    refine lv_iload hx hb dL_law_409 (lv_at hl 1 rfl) ?_
    refine lv_if_ne (tgt := 425) hx hb dL_law_411 (by decide) (fun _ => ?_) (fun ce => absurd ce (by decide))
    refine lv_goto (tgt := 541) hx hb dL_law_425 (by decide) ?_
    exact kk d (N1) (M2) (f1) H locs _ _ ls ⟨(show zl_R N1 M2 (j + 1) from by rw [hN1]; rcases zm_num_s (M := M) (k := (xs (nI (6 * j) + 1).toNatClampNeg)) with ⟨-, z⟩ | ⟨-, z⟩ <;> rw [hM2, z] <;> exact hR9.same _), by rw [hN1]; omega, by rw [hN1]; omega, hP.sub (ws' := zl_w g o d (N1) h ad (M2) ob (f1)) [0, 1, 2, 3, 4, 5, 6, 7, 8, 9, 10, 11, 12, 13, 14, 15, 16, 18, 19, 20, 21, 22, 23, 24, 25, 26, 27, 28, 29, 30, 31, 32, 33, 34, 35, 17] rfl, hD.sub (ws' := zl_w g o d (N1) h ad (M2) ob (f1)) [0, 1, 2, 3, 4, 5, 6, 7, 8, 9, 10, 11, 12, 13, 14, 15, 16, 18, 19, 20, 21, 22, 23, 24, 25, 26, 27, 28, 29, 30, 31, 32, 33, 34, 35, 17] (by decide) rfl, hS⟩ (lv_sub hl [2, 3, 4, 5, 6] rfl)
  · obtain ⟨hN1, hf1⟩ := Prod.mk.inj hu
    have hz := zp_number hR (xs (nI (6 * j) + 1).toNatClampNeg)
    refine za_cl (wc := zm_ws g h ad M) (wr := zc_ws g o d (N1) ++ [zy_o g ob (f1)]) C hP hD hS [0, 1, 2, 3, 4, 5, 6, 7, 8, 9, 10, 11, 12, 13, 14, 15, 16, 17] [18, 19, 20, 21, 22, 23, 24, 25, 26, 27, 28, 29, 30, 31, 32, 33, 34, 35] rfl rfl (by decide) (by decide) (za_runV C hP hD hS [0, 1, 2, 3, 4, 5, 6, 7, 8, 9, 10, 11, 12, 13, 14, 15, 16, 17] rfl (by decide) rfl (kX10_number_ l g E h ad M (xs (nI (6 * j) + 1).toNatClampNeg) hT) w_1122 mX10_number_ 0 rfl rfl rfl rfl hl.1 rfl (Nat.le_of_ble_eq_true rfl) dL_law_393 ⟨Nat.le_of_ble_eq_true rfl, Nat.le_of_ble_eq_true rfl⟩ ⟨by show cells + 1 + 0 ≤ 601024; omega, by show slots + 6 + 0 ≤ 7293033; omega⟩) (fun r2 M2 H locs hr2 hP hD hS => ?_)
    obtain ⟨hr2, hM2⟩ := hr2
    refine lv_lstore (lv' := [(6, .long r2), (5, .int 0), (0, .ref b), (1, .ref (o 8)), (2, .ref h), (3, .ref ob), (4, .int (nI (6 * j)))]) hx hb dL_law_396 hl (by decide) rfl (fun ls hl => ?_)
    refine lv_aload_n hx hb dL_law_398 rfl (lv_at hl 4 rfl) ?_
    refine za_ci (wc := zm_ws g h ad M2) (wr := zc_ws g o d (N1) ++ [zy_o g ob (f1)]) C hP hD hS [18, 19, 20, 21, 22, 23, 24, 25, 26, 27, 28, 29, 30, 31, 32, 33, 34, 35] [0, 1, 2, 3, 4, 5, 6, 7, 8, 9, 10, 11, 12, 13, 14, 15, 16, 17] rfl rfl (by decide) (by decide) (za_runV C hP hD hS [18, 19, 20, 21, 22, 23, 24, 25, 26, 27, 28, 29, 30, 31, 32, 33, 34, 35] rfl (by decide) rfl (kX10_thrown l g E h ad M2) w_945 mX10_thrown 18 rfl rfl rfl rfl hl.1 rfl (Nat.le_of_ble_eq_true rfl) dL_law_399 ⟨Nat.le_of_ble_eq_true rfl, Nat.le_of_ble_eq_true rfl⟩ ⟨by show cells + 1 + 0 + 0 ≤ 601024; omega, by show slots + 6 + 0 + 0 ≤ 7293033; omega⟩) (fun r3 _ H locs hr3 hP hD hS => ?_)
    refine lv_iload hx hb dL_law_402 (lv_at hl 1 rfl) ?_
    have hthr : M2.1 0 = 0 := by
      rw [hM2]
      rcases zm_num_s (M := M) (k := (xs (nI (6 * j) + 1).toNatClampNeg)) with ⟨z1, z2⟩ | ⟨z1, z2⟩
      · exact absurd (hz.1.mpr z1) c1
      · rw [z2]; rfl
    have hval := hz.2 c1
    refine lv_icmp_eq (tgt := 409) hx hb dL_law_404 (by decide) (fun _ => ?_) (fun ce => absurd (hr3.trans hthr) ce)
    refine lv_iload hx hb dL_law_409 (lv_at hl 1 rfl) ?_
    refine lv_if_ne (tgt := 425) hx hb dL_law_411 (by decide) (fun ce => absurd rfl ce) (fun _ => ?_)
    refine lv_aload_n hx hb dL_law_414 rfl (lv_at hl 5 rfl) ?_
    refine lv_iconst (v := 0) hx hb dL_law_415 (by decide) ?_
    refine va_lald (f := f1) hx hb hK hP 17 2 rfl rfl (vp_in_nI (n := 0) (by decide) (by decide)) dL_law_416 ?_
    refine lv_lload hx hb dL_law_417 (lv_at hl 0 rfl) ?_
    refine W.lcmp hx hb dL_law_419 ?_
    refine lv_if_eq (tgt := 425) hx hb dL_law_420 (by decide) (fun _ => ?_) (fun ce => absurd (by rw [hr2, ← hval, hf1]; exact zl_cmp2 _ _) ce)
    refine lv_goto (tgt := 541) hx hb dL_law_425 (by decide) ?_
    exact kk d (N1) (M2) (f1) H locs _ _ ls ⟨(show zl_R N1 M2 (j + 1) from by rw [hN1]; rcases zm_num_s (M := M) (k := (xs (nI (6 * j) + 1).toNatClampNeg)) with ⟨-, z⟩ | ⟨-, z⟩ <;> rw [hM2, z] <;> exact hR9.same _), by rw [hN1]; omega, by rw [hN1]; omega, hP.sub (ws' := zl_w g o d (N1) h ad (M2) ob (f1)) [0, 1, 2, 3, 4, 5, 6, 7, 8, 9, 10, 11, 12, 13, 14, 15, 16, 18, 19, 20, 21, 22, 23, 24, 25, 26, 27, 28, 29, 30, 31, 32, 33, 34, 35, 17] rfl, hD.sub (ws' := zl_w g o d (N1) h ad (M2) ob (f1)) [0, 1, 2, 3, 4, 5, 6, 7, 8, 9, 10, 11, 12, 13, 14, 15, 16, 18, 19, 20, 21, 22, 23, 24, 25, 26, 27, 28, 29, 30, 31, 32, 33, 34, 35, 17] (by decide) rfl, hS⟩ (lv_sub hl [2, 3, 4, 5, 6] rfl)
set_option maxHeartbeats 4000000 in
set_option maxRecDepth 100000 in
theorem zl_c8 (C : za_H p s m #[Value.ref b] c cL_law 8 RL g E (fun q : Nat => s.heap.size ≤ q)) (hX : zx_env (fun q : Nat => s.heap.size ≤ q) s s.heap) (hl0 : l.stackTraces = false) (hXs : va_X b L xs s s.heap) (hbl : b < s.heap.size) (hj : 6 * j + 6 ≤ L) (hL : L ≤ 3072) (hok : zl_ok g o h ad ob s j d N M f H locs cells slots) (hl : lv_has ls 8 [(0, .ref b), (1, .ref (o 8)), (2, .ref h), (3, .ref ob), (4, .int (nI (6 * j)))])
    (kk : ∀ (d : Nat → Nat) (N : zc_N) (M : zm_M) (f : Nat → Int64) (H : Heap) (locs : List Loc) (cells slots : Nat) (ls : Array Slot), zl_ok g o h ad ob s (j + 1) d N M f H locs cells slots → lv_has ls 8 [(0, .ref b), (1, .ref (o 8)), (2, .ref h), (3, .ref ob), (4, .int (nI (6 * j)))] → W p l e room_1 s m #[Value.ref b] below meth c H locs cells slots (lw_Z below #[Value.ref b] s) (F0 m 541 ls [])) :
    W p l e room_1 s m #[Value.ref b] below meth c H locs cells slots (lw_Z below #[Value.ref b] s) (F0 m 428 ls []) := by
  obtain ⟨hx, hb, hml, hown, hts, hK, hA, hE⟩ := id C
  have hbA : ¬ (fun q : Nat => s.heap.size ≤ q) b := Nat.not_le.mpr hbl
  obtain ⟨hR9, hcl, hsl, hP, hD, hS⟩ := hok
  obtain ⟨⟨n, t, k, hR, hn⟩, hd⟩ := id hR9
  have hI := hR.1
  have hLe := zc_L_le hI
  have hT : zm_T M := zm_T_at hR.2.2.1.2.1 hR.2.2.1.2.2.1
  refine lv_aload_n hx hb dL_law_428 rfl (lv_at hl 1 rfl) ?_
  refine lv_aload_n hx hb dL_law_429 rfl (lv_at hl 0 rfl) ?_
  refine lv_iload hx hb dL_law_430 (lv_at hl 4 rfl) ?_
  refine lv_iconst (v := 1) hx hb dL_law_432 (by decide) ?_
  refine lv_iadd hx hb dL_law_433 ?_
  refine va_sld hx hb hXs hbl hbA hS (zl_in hj hL (k := 1) (by decide) rfl) dL_law_434 ?_
  refine lv_aload_n hx hb dL_law_435 rfl (lv_at hl 0 rfl) ?_
  refine lv_iload hx hb dL_law_436 (lv_at hl 4 rfl) ?_
  refine lv_iconst (v := 2) hx hb dL_law_438 (by decide) ?_
  refine lv_iadd hx hb dL_law_439 ?_
  refine va_sld hx hb hXs hbl hbA hS (zl_in hj hL (k := 2) (by decide) rfl) dL_law_440 ?_
  refine lv_aload_n hx hb dL_law_441 rfl (lv_at hl 3 rfl) ?_
  refine za_ci (wc := zc_ws g o d N ++ [zy_o g ob f]) (wr := zm_ws g h ad M) C hP hD hS [0, 1, 2, 3, 4, 5, 6, 7, 8, 9, 10, 11, 12, 13, 14, 15, 16, 35] [17, 18, 19, 20, 21, 22, 23, 24, 25, 26, 27, 28, 29, 30, 31, 32, 33, 34] rfl rfl (by decide) (by decide) (zl_runSW (k := 4) C hX hP hD hS [0, 1, 2, 3, 4, 5, 6, 7, 8, 9, 10, 11, 12, 13, 14, 15, 16, 35] rfl (by decide) rfl (kL_fits l hl0 g E o d N ob f (xs (nI (6 * j) + 1).toNatClampNeg) (xs (nI (6 * j) + 2).toNatClampNeg) hI) w_783 zl_cw4 w_56 w_784 ⟨by decide, by decide, by decide +kernel⟩ rfl hl.1 rfl (Nat.le_of_ble_eq_true rfl) dL_law_442 ⟨Nat.le_of_ble_eq_true rfl, Nat.le_of_ble_eq_true rfl⟩ ⟨by show cells + 1 ≤ 601024; omega, by show slots + 6 ≤ 7293033; omega⟩) (fun r1 u1 H locs hr1 hP hD hS => ?_)
  refine lv_istore (lv' := [(5, .int r1), (0, .ref b), (1, .ref (o 8)), (2, .ref h), (3, .ref ob), (4, .int (nI (6 * j)))]) hx hb dL_law_445 hl (by decide) rfl (fun ls hl => ?_)
  refine lv_aload_n hx hb dL_law_447 rfl (lv_at hl 3 rfl) ?_
  refine lv_aload_n hx hb dL_law_448 rfl (lv_at hl 1 rfl) ?_
  refine lv_iload hx hb dL_law_449 (lv_at hl 5 rfl) ?_
  refine lv_iconst (v := 1) hx hb dL_law_451 (by decide) ?_
  refine lv_iadd hx hb dL_law_452 ?_
  refine va_sld hx hb hXs hbl hbA hS (zl_in hj hL (k := 1) (by decide) rfl) dL_law_453 ?_
  refine lv_aload_n hx hb dL_law_454 rfl (lv_at hl 1 rfl) ?_
  refine lv_iload hx hb dL_law_455 (lv_at hl 5 rfl) ?_
  refine lv_iconst (v := 2) hx hb dL_law_457 (by decide) ?_
  refine lv_iadd hx hb dL_law_458 ?_
  refine va_sld hx hb hXs hbl hbA hS (zl_in hj hL (k := 2) (by decide) rfl) dL_law_459 ?_
  obtain ⟨N1, f1⟩ := u1
  rcases hr1 with ⟨c1, rfl, hu⟩ | ⟨c1, rfl, hu⟩
  · obtain ⟨hN1, hf1⟩ := Prod.mk.inj hu
    have hz := zp_fits hR (xs (nI (6 * j) + 1).toNatClampNeg) (xs (nI (6 * j) + 2).toNatClampNeg)
    refine za_ci (wc := zm_ws g h ad M) (wr := zc_ws g o d (N1) ++ [zy_o g ob (f1)]) C hP hD hS [0, 1, 2, 3, 4, 5, 6, 7, 8, 9, 10, 11, 12, 13, 14, 15, 16, 17] [18, 19, 20, 21, 22, 23, 24, 25, 26, 27, 28, 29, 30, 31, 32, 33, 34, 35] rfl rfl (by decide) (by decide) (za_runV C hP hD hS [0, 1, 2, 3, 4, 5, 6, 7, 8, 9, 10, 11, 12, 13, 14, 15, 16, 17] rfl (by decide) rfl (kX10_fitsR l g E h ad M (xs (nI (6 * j) + 1).toNatClampNeg) (xs (nI (6 * j) + 2).toNatClampNeg) (hz.1.mp c1) hT) w_1126 mX10_fits 0 rfl rfl rfl rfl hl.1 rfl (Nat.le_of_ble_eq_true rfl) dL_law_460 ⟨Nat.le_of_ble_eq_true rfl, Nat.le_of_ble_eq_true rfl⟩ ⟨by show cells + 1 + 0 ≤ 601024; omega, by show slots + 6 + 0 ≤ 7293033; omega⟩) (fun r2 M2 H locs hr2 hP hD hS => ?_)
    obtain ⟨hr2, hM2⟩ := hr2
    refine lv_istore (lv' := [(6, .int r2), (5, .int 1), (0, .ref b), (1, .ref (o 8)), (2, .ref h), (3, .ref ob), (4, .int (nI (6 * j)))]) hx hb dL_law_463 hl (by decide) rfl (fun ls hl => ?_)
    refine lv_aload_n hx hb dL_law_465 rfl (lv_at hl 4 rfl) ?_
    refine za_ci (wc := zm_ws g h ad M2) (wr := zc_ws g o d (N1) ++ [zy_o g ob (f1)]) C hP hD hS [18, 19, 20, 21, 22, 23, 24, 25, 26, 27, 28, 29, 30, 31, 32, 33, 34, 35] [0, 1, 2, 3, 4, 5, 6, 7, 8, 9, 10, 11, 12, 13, 14, 15, 16, 17] rfl rfl (by decide) (by decide) (za_runV C hP hD hS [18, 19, 20, 21, 22, 23, 24, 25, 26, 27, 28, 29, 30, 31, 32, 33, 34, 35] rfl (by decide) rfl (kX10_thrown l g E h ad M2) w_945 mX10_thrown 18 rfl rfl rfl rfl hl.1 rfl (Nat.le_of_ble_eq_true rfl) dL_law_466 ⟨Nat.le_of_ble_eq_true rfl, Nat.le_of_ble_eq_true rfl⟩ ⟨by show cells + 1 + 0 + 0 ≤ 601024; omega, by show slots + 6 + 0 + 0 ≤ 7293033; omega⟩) (fun r3 _ H locs hr3 hP hD hS => ?_)
    refine lv_iload hx hb dL_law_469 (lv_at hl 1 rfl) ?_
    have hthr : M2.1 0 = 1 := by rw [hM2]; rfl
    refine lv_icmp_eq (tgt := 476) hx hb dL_law_471 (by decide) (fun _ => ?_) (fun ce => absurd (hr3.trans hthr) ce)
    refine lv_iload hx hb dL_law_476 (lv_at hl 1 rfl) ?_
    refine lv_if_ne (tgt := 500) hx hb dL_law_478 (by decide) (fun _ => ?_) (fun ce => absurd ce (by decide))
    refine lv_goto (tgt := 541) hx hb dL_law_500 (by decide) ?_
    exact kk d (N1) (M2) (f1) H locs _ _ ls ⟨(show zl_R N1 M2 (j + 1) from by rw [hN1, hM2]; show zl_R N (zm_s (zm_s M 0 0) 0 1) (j + 1); rw [zm_s00]; exact hR9.same 1), by rw [hN1]; omega, by rw [hN1]; omega, hP.sub (ws' := zl_w g o d (N1) h ad (M2) ob (f1)) [0, 1, 2, 3, 4, 5, 6, 7, 8, 9, 10, 11, 12, 13, 14, 15, 16, 18, 19, 20, 21, 22, 23, 24, 25, 26, 27, 28, 29, 30, 31, 32, 33, 34, 35, 17] rfl, hD.sub (ws' := zl_w g o d (N1) h ad (M2) ob (f1)) [0, 1, 2, 3, 4, 5, 6, 7, 8, 9, 10, 11, 12, 13, 14, 15, 16, 18, 19, 20, 21, 22, 23, 24, 25, 26, 27, 28, 29, 30, 31, 32, 33, 34, 35, 17] (by decide) rfl, hS⟩ (lv_sub hl [2, 3, 4, 5, 6] rfl)
  · obtain ⟨hN1, hf1⟩ := Prod.mk.inj hu
    have hz := zp_fits hR (xs (nI (6 * j) + 1).toNatClampNeg) (xs (nI (6 * j) + 2).toNatClampNeg)
    obtain ⟨k9, B, P0, en, u9, w9, e1, hk9, e2, e3, e4, e5, e6, e7, e8, e9, hval⟩ := hz.2 c1
    have ek : (xs (nI (6 * j) + 1).toNatClampNeg).toNatClampNeg = k9 := by rw [e1, nI_clamp (by omega)]
    have con := kX10_fits l g E h ad M (xs (nI (6 * j) + 1).toNatClampNeg) B P0 en u9 w9 (by rw [← e2]; exact fun z => c1 (hz.1.mpr z)) hT e3 (by rw [ek]; exact e4) (by rw [ek]; exact e5) e6 e7 (by rw [e1]; exact e8) e9
    rw [← e2] at con
    refine za_ci (wc := zm_ws g h ad M) (wr := zc_ws g o d (N1) ++ [zy_o g ob (f1)]) C hP hD hS [0, 1, 2, 3, 4, 5, 6, 7, 8, 9, 10, 11, 12, 13, 14, 15, 16, 17] [18, 19, 20, 21, 22, 23, 24, 25, 26, 27, 28, 29, 30, 31, 32, 33, 34, 35] rfl rfl (by decide) (by decide) (za_runV C hP hD hS [0, 1, 2, 3, 4, 5, 6, 7, 8, 9, 10, 11, 12, 13, 14, 15, 16, 17] rfl (by decide) rfl (con) w_1126 mX10_fits 0 rfl rfl rfl rfl hl.1 rfl (Nat.le_of_ble_eq_true rfl) dL_law_460 ⟨Nat.le_of_ble_eq_true rfl, Nat.le_of_ble_eq_true rfl⟩ ⟨by show cells + 1 + 0 ≤ 601024; omega, by show slots + 6 + 0 ≤ 7293033; omega⟩) (fun r2 M2 H locs hr2 hP hD hS => ?_)
    obtain ⟨hr2, hM2⟩ := hr2
    refine lv_istore (lv' := [(6, .int r2), (5, .int 0), (0, .ref b), (1, .ref (o 8)), (2, .ref h), (3, .ref ob), (4, .int (nI (6 * j)))]) hx hb dL_law_463 hl (by decide) rfl (fun ls hl => ?_)
    refine lv_aload_n hx hb dL_law_465 rfl (lv_at hl 4 rfl) ?_
    refine za_ci (wc := zm_ws g h ad M2) (wr := zc_ws g o d (N1) ++ [zy_o g ob (f1)]) C hP hD hS [18, 19, 20, 21, 22, 23, 24, 25, 26, 27, 28, 29, 30, 31, 32, 33, 34, 35] [0, 1, 2, 3, 4, 5, 6, 7, 8, 9, 10, 11, 12, 13, 14, 15, 16, 17] rfl rfl (by decide) (by decide) (za_runV C hP hD hS [18, 19, 20, 21, 22, 23, 24, 25, 26, 27, 28, 29, 30, 31, 32, 33, 34, 35] rfl (by decide) rfl (kX10_thrown l g E h ad M2) w_945 mX10_thrown 18 rfl rfl rfl rfl hl.1 rfl (Nat.le_of_ble_eq_true rfl) dL_law_466 ⟨Nat.le_of_ble_eq_true rfl, Nat.le_of_ble_eq_true rfl⟩ ⟨by show cells + 1 + 0 + 0 ≤ 601024; omega, by show slots + 6 + 0 + 0 ≤ 7293033; omega⟩) (fun r3 _ H locs hr3 hP hD hS => ?_)
    refine lv_iload hx hb dL_law_469 (lv_at hl 1 rfl) ?_
    have hM9 := zm_fb_f (M := zm_0 M) (k := (xs (nI (6 * j) + 1).toNatClampNeg)) (p := zr_skip (M.2.1 16) P0 (en - P0)) (e := en) (B := B)
    rw [← hM2] at hM9
    have hthr : M2.1 0 = 0 := by rw [hM9.1]; rfl
    rw [← e1] at hval
    refine lv_icmp_eq (tgt := 476) hx hb dL_law_471 (by decide) (fun _ => ?_) (fun ce => absurd (hr3.trans hthr) ce)
    refine lv_iload hx hb dL_law_476 (lv_at hl 1 rfl) ?_
    refine lv_if_ne (tgt := 500) hx hb dL_law_478 (by decide) (fun ce => absurd rfl ce) (fun _ => ?_)
    refine lv_aload_n hx hb dL_law_481 rfl (lv_at hl 5 rfl) ?_
    refine lv_iconst (v := 0) hx hb dL_law_482 (by decide) ?_
    refine va_lald (f := f1) hx hb hK hP 17 2 rfl rfl (vp_in_nI (n := 0) (by decide) (by decide)) dL_law_483 ?_
    refine lv_iload hx hb dL_law_484 (lv_at hl 0 rfl) ?_
    refine lv_if_eq (tgt := 493) hx hb dL_law_486 (by decide) (fun cz => ?_) (fun cz => ?_)
    · refine lv_lconst (v := 0) hx hb dL_law_493 (by decide) ?_
      refine W.lcmp hx hb dL_law_494 ?_
      refine lv_if_eq (tgt := 500) hx hb dL_law_495 (by decide) (fun _ => ?_) (fun ce => absurd (by rw [hf1, if_pos (show zk_below N (xs (nI (6 * j) + 1).toNatClampNeg) (xs (nI (6 * j) + 2).toNatClampNeg).toNatClampNeg = 0 from by rw [hval, ← hr2]; exact cz)]; exact zl_cmp2 _ _) ce)
      refine lv_goto (tgt := 541) hx hb dL_law_500 (by decide) ?_
      exact kk d (N1) (M2) (f1) H locs _ _ ls ⟨⟨⟨n, t, k, by rw [hN1]; exact zp_R_below hR (xs (nI (6 * j) + 1).toNatClampNeg) (fun q9 hq9 => by rw [hM9.1]; show upd M.1 0 0 q9 = _; rw [zq_upd, if_neg hq9]) (fun a ha => by rw [hM9.2.1 a ha]; rfl) (by rw [hM9.2.2]; rfl), by omega⟩, by rw [hN1]; exact zh.below.hd hd⟩, by rw [hN1, zL_below]; omega, by rw [hN1, zL_below]; omega, hP.sub (ws' := zl_w g o d (N1) h ad (M2) ob (f1)) [0, 1, 2, 3, 4, 5, 6, 7, 8, 9, 10, 11, 12, 13, 14, 15, 16, 18, 19, 20, 21, 22, 23, 24, 25, 26, 27, 28, 29, 30, 31, 32, 33, 34, 35, 17] rfl, hD.sub (ws' := zl_w g o d (N1) h ad (M2) ob (f1)) [0, 1, 2, 3, 4, 5, 6, 7, 8, 9, 10, 11, 12, 13, 14, 15, 16, 18, 19, 20, 21, 22, 23, 24, 25, 26, 27, 28, 29, 30, 31, 32, 33, 34, 35, 17] (by decide) rfl, hS⟩ (lv_sub hl [2, 3, 4, 5, 6] rfl)
    · refine lv_lconst (v := 1) hx hb dL_law_489 (by decide) ?_
      refine lv_goto (tgt := 494) hx hb dL_law_490 (by decide) ?_
      refine W.lcmp hx hb dL_law_494 ?_
      refine lv_if_eq (tgt := 500) hx hb dL_law_495 (by decide) (fun _ => ?_) (fun ce => absurd (by rw [hf1, if_neg (show ¬ zk_below N (xs (nI (6 * j) + 1).toNatClampNeg) (xs (nI (6 * j) + 2).toNatClampNeg).toNatClampNeg = 0 from by rw [hval, ← hr2]; exact cz)]; exact zl_cmp2 _ _) ce)
      refine lv_goto (tgt := 541) hx hb dL_law_500 (by decide) ?_
      exact kk d (N1) (M2) (f1) H locs _ _ ls ⟨⟨⟨n, t, k, by rw [hN1]; exact zp_R_below hR (xs (nI (6 * j) + 1).toNatClampNeg) (fun q9 hq9 => by rw [hM9.1]; show upd M.1 0 0 q9 = _; rw [zq_upd, if_neg hq9]) (fun a ha => by rw [hM9.2.1 a ha]; rfl) (by rw [hM9.2.2]; rfl), by omega⟩, by rw [hN1]; exact zh.below.hd hd⟩, by rw [hN1, zL_below]; omega, by rw [hN1, zL_below]; omega, hP.sub (ws' := zl_w g o d (N1) h ad (M2) ob (f1)) [0, 1, 2, 3, 4, 5, 6, 7, 8, 9, 10, 11, 12, 13, 14, 15, 16, 18, 19, 20, 21, 22, 23, 24, 25, 26, 27, 28, 29, 30, 31, 32, 33, 34, 35, 17] rfl, hD.sub (ws' := zl_w g o d (N1) h ad (M2) ob (f1)) [0, 1, 2, 3, 4, 5, 6, 7, 8, 9, 10, 11, 12, 13, 14, 15, 16, 18, 19, 20, 21, 22, 23, 24, 25, 26, 27, 28, 29, 30, 31, 32, 33, 34, 35, 17] (by decide) rfl, hS⟩ (lv_sub hl [2, 3, 4, 5, 6] rfl)
end
