theorem zu_dec : ∀ N, N < 4 → ∀ j, j < 4 → nI N - nI (j + 1) + (-1) = nI N - nI (j + 1 + 1) := by decide +kernel
theorem zu_neg : ∀ N, N < 4 → ∀ j, j < 4 → (nI N - nI (j + 1) < 0 ↔ N ≤ j) := by decide +kernel
theorem zr_un_N (x : Int32) : ∃ N : Nat, zr_un x = nI N ∧ 1 ≤ N ∧ N ≤ 3 := by
  unfold zr_un
  repeat' split
  · exact ⟨1, rfl, by decide, by decide⟩
  · exact ⟨2, rfl, by decide, by decide⟩
  · exact ⟨3, rfl, by decide, by decide⟩
theorem zm_utf_step (M : zm_M) (n : Int32) (j : Nat) : zm_keep (zm_utf M n j) (128 ||| (((zm_utf M n j).1 38 >>> ((6 * (n - nI (j + 1))) &&& 31)) &&& 63)) = zm_utf M n (j + 1) := rfl
set_option maxHeartbeats 4000000 in
set_option maxRecDepth 100000 in
theorem kL_utf (l : Launch) (g : za_G) (E : za_E) (h : Nat) (ad : Nat → Nat) (M : zm_M) (x : Int32) (M3 : zm_M) (n : Int32) (N : Nat) (hnN : n = nI N) (hN3 : N ≤ 3) (hfin : zm_number2 M x = zm_utf M3 n N) {p : Program} {e : Env} {s : State} {m : MethodId} {args : Array Value} {below : List Frame} {meth : Method} {co : Code} {A : Nat → Prop} {Q : State → Prop} (C : za_H p s m args co cX10_number2 10 RX10 g E A) (hQ : Q = MQ below (za_qv g (fun u : zm_M => u = zm_number2 M x) (fun u => zm_ws g h ad u) A) args s 0 0 A) (hr : meth.sig.returnType = none) (hlocks : meth.locks = false)  : ∀ (n_ : Nat) (j : Nat), (j ≤ N) → (zm_K (zm_utf M3 n j) (N - j)) → N - j < n_ → ∀ (H : Heap) (locs : List Loc) (ls : Array Slot), va_S A s.heap H locs → va_P g.1 vwCl (zm_ws g h ad (zm_utf M3 n j)) H → va_D A (zm_ws g h ad (zm_utf M3 n j)) → lv_has ls 10 [(0, .ref h), (8, .int n), (9, .int (n - nI (j + 1)))] → W p l e (za_R 3 0 0) s m args below meth co H locs 0 0 Q (F0 m 252 ls []) := by
  obtain ⟨hx, hb, hml, hown, hts, hK, hA, hE⟩ := id C
  intro n_
  induction n_ with
  | zero => intro j hj hkj hm; exact absurd hm (Nat.not_lt_zero _)
  | succ n_ ih =>
    intro j hj hkj hm H locs ls hS hP hD hl
    refine lv_iload hx hb dX10_number2_252 (lv_at hl 2 rfl) ?_
    refine lv_if_lt (tgt := 284) hx hb dX10_number2_254 (by decide) (fun c_254 => ?_) (fun c_254 => ?_)
    · have hjN : j = N := by
        rw [hnN] at c_254
        have h9 := (zu_neg N (by omega) j (by omega)).mp c_254
        omega
      exact zm_rv hQ hx hb hr hlocks hK hP hD hS (by rw [hfin, hjN]) dX10_number2_284
    · have hjN : j + 1 ≤ N := by
        rcases Nat.lt_or_ge j N with h9 | h9
        · exact h9
        · rw [hnN] at c_254
          exact absurd ((zu_neg N (by omega) j (by omega)).mpr h9) c_254
      refine lv_aload_n hx hb dX10_number2_257 rfl (lv_at hl 0 rfl) ?_
      refine lv_sipush (v := 128) hx hb dX10_number2_258 (by decide) ?_
      refine lv_aload_n hx hb dX10_number2_261 rfl (lv_at hl 0 rfl) ?_
      refine va_get (ci := 9) (v := .int ((zm_utf M3 n j).1 38)) hx hb hts iX10 hown hK hP 0 rfl rfl 38 (by decide) (hts _ w_849) (fun _ h9 => h9) rfl dX10_number2_262 ?_
      refine lv_bipush (v := 6) hx hb dX10_number2_265 (by decide) ?_
      refine lv_iload hx hb dX10_number2_267 (lv_at hl 2 rfl) ?_
      refine lv_imul hx hb dX10_number2_269 ?_
      refine lv_ishr hx hb dX10_number2_270 ?_
      refine lv_bipush (v := 63) hx hb dX10_number2_271 (by decide) ?_
      refine lv_iand hx hb dX10_number2_273 ?_
      refine lv_ior hx hb dX10_number2_274 ?_
      refine za_cv (wc := zm_ws g h ad (zm_utf M3 n j)) (wr := []) C hP hD hS [0, 1, 2, 3, 4, 5, 6, 7, 8, 9, 10, 11, 12, 13, 14, 15, 16, 17] [] rfl rfl (by decide) (by decide) (za_runV C hP hD hS [0, 1, 2, 3, 4, 5, 6, 7, 8, 9, 10, 11, 12, 13, 14, 15, 16, 17] rfl (by decide) rfl (kX10_keep l g E h ad (zm_utf M3 n j) (128 ||| ((((zm_utf M3 n j).1 38) >>> ((6 * (n - nI (j + 1))) &&& 31)) &&& 63)) (zm_K_in (n := N - j - 1) (by rw [show N - j - 1 + 1 = N - j by omega]; exact hkj))) w_1027 mX10_keep 0 rfl rfl rfl rfl hl.1 rfl (Nat.le_of_ble_eq_true rfl) dX10_number2_275 ⟨by decide, by decide⟩ ⟨by decide, by decide⟩) (fun M1 H locs hM1 hP hD hS => ?_)
      have hP : va_P g.1 vwCl (zm_ws g h ad M1) H := hP
      have hD : va_D A (zm_ws g h ad M1) := hD
      refine lv_iinc (v := n - nI (j + 1 + 1)) (lv' := [(9, .int (n - nI (j + 1 + 1))), (0, .ref h), (8, .int n)]) hx hb dX10_number2_278 hl (k := 2) rfl (by rw [hnN]; exact zu_dec N (by omega) j (by omega)) (by decide) rfl (fun ls hl => ?_)
      refine lv_goto (tgt := 252) hx hb dX10_number2_281 (by decide) ?_
      have hM9 := hM1
      rw [zm_utf_step] at hM9
      subst hM9
      have hk9 : zm_K (zm_utf M3 n (j + 1)) (N - (j + 1)) := by
        rw [← zm_utf_step]
        exact zm_K_keep (n := N - (j + 1)) (by rw [show N - (j + 1) + 1 = N - j by omega]; exact hkj)
      exact ih (j + 1) (hjN) (hk9) (by omega) H locs ls hS hP hD (lv_sub hl [1, 2, 0] rfl)
set_option maxHeartbeats 4000000 in
set_option maxRecDepth 100000 in
theorem kL_num2 (l : Launch) (g : za_G) (E : za_E) (h : Nat) (ad : Nat → Nat) (M : zm_M) (x : Int32) (v : Int64) (hk : zm_K M 4) (D : Nat) (hd9 : M.1 36 - 1 = nI D) (hD9 : D < 100) (hw : zr_worth x < M.1 37) (hv : v = (M.1 38).toInt64 * (M.1 37).toInt64 + (zr_worth x).toInt64) {p : Program} {e : Env} {s : State} {m : MethodId} {args : Array Value} {below : List Frame} {meth : Method} {co : Code} {A : Nat → Prop} {Q : State → Prop} (C : za_H p s m args co cX10_number2 10 RX10 g E A) (hQ : Q = MQ below (za_qv g (fun u : zm_M => u = zm_number2 M x) (fun u => zm_ws g h ad u) A) args s 0 0 A) (hr : meth.sig.returnType = none) (hlocks : meth.locks = false)  : ∀ (n_ : Nat) (j : Nat), (j ≤ D) → D - j < n_ → ∀ (H : Heap) (locs : List Loc) (ls : Array Slot), va_S A s.heap H locs → va_P g.1 vwCl (zm_ws g h ad (zm_s M 36 (M.1 36 - 1))) H → va_D A (zm_ws g h ad (zm_s M 36 (M.1 36 - 1))) → lv_has ls 10 [(0, .ref h), (1, .int x), (2, .long v), (4, .long (zr_least v j)), (6, .long (zr_most v j)), (8, .int (nI j))] → W p l e (za_R 3 0 0) s m args below meth co H locs 0 0 Q (F0 m 53 ls []) := by
  obtain ⟨hx, hb, hml, hown, hts, hK, hA, hE⟩ := id C
  intro n_
  induction n_ with
  | zero => intro j hj hm; exact absurd hm (Nat.not_lt_zero _)
  | succ n_ ih =>
    intro j hj hm H locs ls hS hP hD hl
    refine lv_iload hx hb dX10_number2_53 (lv_at hl 5 rfl) ?_
    refine lv_aload_n hx hb dX10_number2_55 rfl (lv_at hl 0 rfl) ?_
    refine va_get (ci := 9) (v := .int (M.1 36 - 1)) hx hb hts iX10 hown hK hP 0 rfl rfl 36 (by decide) (hts _ w_847) (fun _ h9 => h9) rfl dX10_number2_56 ?_
    refine za_icmp_ge (tgt := 88) hx hb dX10_number2_59 (by decide) (fun c_59 => ?_) (fun c_59 => ?_)
    · have hjD : (M.1 36 - 1).toNatClampNeg = j := by
        have e9 : j = D := by
          rcases Nat.lt_or_ge j D with h9 | h9
          · rw [hd9] at c_59; exact absurd (nI_lt h9 (by omega)) c_59
          · omega
        rw [hd9, e9]
        exact nI_clamp (by omega)
      refine lv_aload_n hx hb dX10_number2_88 rfl (lv_at hl 0 rfl) ?_
      refine va_get (ci := 9) (v := .int (M.1 40)) hx hb hts iX10 hown hK hP 0 rfl rfl 40 (by decide) (hts _ w_851) (fun _ h9 => h9) rfl dX10_number2_89 ?_
      refine lv_if_ne (tgt := 127) hx hb dX10_number2_92 (by decide) (fun c_92 => ?_) (fun c_92 => ?_)
      · refine lv_aload_n hx hb dX10_number2_127 rfl (lv_at hl 0 rfl) ?_
        refine lv_lload_n hx hb dX10_number2_128 rfl (lv_at hl 2 rfl) ?_
        refine lv_l2i (v := v.toInt32) hx hb dX10_number2_129 rfl ?_
        refine va_put (ci := 9) (v := .int v.toInt32) hx hb hts iX10 tyX10 tyX10_ok nmX10 hown hK hP hD hS 0 rfl rfl 38 (by decide) (hts _ w_849) (fun _ h9 => h9) rfl (tyX10_ok 38 (by decide)) rfl rfl (Nat.le_of_ble_eq_true rfl) dX10_number2_130 (fun H locs hP hD hS => ?_)
        have hP : va_P g.1 vwCl (zm_ws g h ad (zm_s (zm_s M 36 (M.1 36 - 1)) 38 v.toInt32)) H := hP
        have hD : va_D A (zm_ws g h ad (zm_s (zm_s M 36 (M.1 36 - 1)) 38 v.toInt32)) := hD
        refine lv_aload_n hx hb dX10_number2_133 rfl (lv_at hl 0 rfl) ?_
        refine va_get (ci := 9) (v := .int (M.1 36 - 1)) hx hb hts iX10 hown hK hP 0 rfl rfl 36 (by decide) (hts _ w_847) (fun _ h9 => h9) rfl dX10_number2_134 ?_
        refine za_if_le (tgt := 141) hx hb dX10_number2_137 (by decide) (fun c_137 => ?_) (fun c_137 => ?_)
        · refine lv_aload_n hx hb dX10_number2_141 rfl (lv_at hl 0 rfl) ?_
          refine lv_iconst (v := 1) hx hb dX10_number2_142 (by decide) ?_
          refine va_put (ci := 9) (v := .int 1) hx hb hts iX10 tyX10 tyX10_ok nmX10 hown hK hP hD hS 0 rfl rfl 41 (by decide) (hts _ w_852) (fun _ h9 => h9) rfl (tyX10_ok 41 (by decide)) rfl rfl (Nat.le_of_ble_eq_true rfl) dX10_number2_143 (fun H locs hP hD hS => ?_)
          have hP : va_P g.1 vwCl (zm_ws g h ad (zm_s (zm_s (zm_s M 36 (M.1 36 - 1)) 38 v.toInt32) 41 1)) H := hP
          have hD : va_D A (zm_ws g h ad (zm_s (zm_s (zm_s M 36 (M.1 36 - 1)) 38 v.toInt32) 41 1)) := hD
          refine lv_aload_n hx hb dX10_number2_146 rfl (lv_at hl 0 rfl) ?_
          refine va_get (ci := 9) (v := .int (M.1 40)) hx hb hts iX10 hown hK hP 0 rfl rfl 40 (by decide) (hts _ w_851) (fun _ h9 => h9) rfl dX10_number2_147 ?_
          refine lv_if_ne (tgt := 163) hx hb dX10_number2_150 (by decide) (fun c_150 => ?_) (fun c_150 => ?_)
          · refine lv_aload_n hx hb dX10_number2_163 rfl (lv_at hl 0 rfl) ?_
            refine lv_aload_n hx hb dX10_number2_164 rfl (lv_at hl 0 rfl) ?_
            refine va_get (ci := 9) (v := .int v.toInt32) hx hb hts iX10 hown hK hP 0 rfl rfl 38 (by decide) (hts _ w_849) (fun _ h9 => h9) rfl dX10_number2_165 ?_
            refine za_cv (wc := zm_ws g h ad (zm_s (zm_s (zm_s M 36 (M.1 36 - 1)) 38 v.toInt32) 41 1)) (wr := []) C hP hD hS [0, 1, 2, 3, 4, 5, 6, 7, 8, 9, 10, 11, 12, 13, 14, 15, 16, 17] [] rfl rfl (by decide) (by decide) (za_runV C hP hD hS [0, 1, 2, 3, 4, 5, 6, 7, 8, 9, 10, 11, 12, 13, 14, 15, 16, 17] rfl (by decide) rfl (kX10_keep l g E h ad (zm_s (zm_s (zm_s M 36 (M.1 36 - 1)) 38 v.toInt32) 41 1) v.toInt32 (zm_K_in (n := 3) hk)) w_1027 mX10_keep 0 rfl rfl rfl rfl hl.1 rfl (Nat.le_of_ble_eq_true rfl) dX10_number2_168 ⟨by decide, by decide⟩ ⟨by decide, by decide⟩) (fun M1 H locs hM1 hP hD hS => ?_)
            have hP : va_P g.1 vwCl (zm_ws g h ad M1) H := hP
            have hD : va_D A (zm_ws g h ad M1) := hD
            refine lv_goto (tgt := 284) hx hb dX10_number2_171 (by decide) ?_
            subst hM1
            exact zm_rv hQ hx hb hr hlocks hK hP hD hS (by simp [zm_number2, zq_upd, hw, hjD, ← hv, c_59, c_92, c_137, c_150]) dX10_number2_284
          · exact absurd c_150 c_92
        · exact zm_rv hQ hx hb hr hlocks hK hP hD hS (by simp [zm_number2, zq_upd, hw, hjD, ← hv, c_59, c_92, c_137]) dX10_number2_140
      · refine lv_lload hx hb dX10_number2_95 (lv_at hl 3 rfl) ?_
        refine lv_ldc2 (v := 1114111) hx hb hown (hts _ w_1072) dX10_number2_97 ?_
        refine W.lcmp hx hb dX10_number2_100 ?_
        refine lv_if_gt (tgt := 122) hx hb dX10_number2_101 (by decide) (fun c_101 => ?_) (fun c_101 => ?_)
        · refine lv_aload_n hx hb dX10_number2_122 rfl (lv_at hl 0 rfl) ?_
          refine za_cv (wc := zm_ws g h ad (zm_s M 36 (M.1 36 - 1))) (wr := []) C hP hD hS [0, 1, 2, 3, 4, 5, 6, 7, 8, 9, 10, 11, 12, 13, 14, 15, 16, 17] [] rfl rfl (by decide) (by decide) (za_runV C hP hD hS [0, 1, 2, 3, 4, 5, 6, 7, 8, 9, 10, 11, 12, 13, 14, 15, 16, 17] rfl (by decide) rfl (kX10_error l g E h ad (zm_s M 36 (M.1 36 - 1))  ) w_1010 mX10_error 0 rfl rfl rfl rfl hl.1 rfl (Nat.le_of_ble_eq_true rfl) dX10_number2_123 ⟨by decide, by decide⟩ ⟨by decide, by decide⟩) (fun M2 H locs hM2 hP hD hS => ?_)
          have hP : va_P g.1 vwCl (zm_ws g h ad M2) H := hP
          have hD : va_D A (zm_ws g h ad M2) := hD
          subst hM2
          exact zm_rv hQ hx hb hr hlocks hK hP hD hS (by simp [zm_number2, zq_upd, hw, hjD, ← hv, c_59, eq_true c_92, c_101]) dX10_number2_126
        · refine lv_lload hx hb dX10_number2_104 (lv_at hl 3 rfl) ?_
          refine lv_ldc2 (v := 55296) hx hb hown (hts _ w_1073) dX10_number2_106 ?_
          refine W.lcmp hx hb dX10_number2_109 ?_
          refine lv_if_lt (tgt := 127) hx hb dX10_number2_110 (by decide) (fun c_110 => ?_) (fun c_110 => ?_)
          · refine lv_aload_n hx hb dX10_number2_127 rfl (lv_at hl 0 rfl) ?_
            refine lv_lload_n hx hb dX10_number2_128 rfl (lv_at hl 2 rfl) ?_
            refine lv_l2i (v := v.toInt32) hx hb dX10_number2_129 rfl ?_
            refine va_put (ci := 9) (v := .int v.toInt32) hx hb hts iX10 tyX10 tyX10_ok nmX10 hown hK hP hD hS 0 rfl rfl 38 (by decide) (hts _ w_849) (fun _ h9 => h9) rfl (tyX10_ok 38 (by decide)) rfl rfl (Nat.le_of_ble_eq_true rfl) dX10_number2_130 (fun H locs hP hD hS => ?_)
            have hP : va_P g.1 vwCl (zm_ws g h ad (zm_s (zm_s M 36 (M.1 36 - 1)) 38 v.toInt32)) H := hP
            have hD : va_D A (zm_ws g h ad (zm_s (zm_s M 36 (M.1 36 - 1)) 38 v.toInt32)) := hD
            refine lv_aload_n hx hb dX10_number2_133 rfl (lv_at hl 0 rfl) ?_
            refine va_get (ci := 9) (v := .int (M.1 36 - 1)) hx hb hts iX10 hown hK hP 0 rfl rfl 36 (by decide) (hts _ w_847) (fun _ h9 => h9) rfl dX10_number2_134 ?_
            refine za_if_le (tgt := 141) hx hb dX10_number2_137 (by decide) (fun c_137 => ?_) (fun c_137 => ?_)
            · refine lv_aload_n hx hb dX10_number2_141 rfl (lv_at hl 0 rfl) ?_
              refine lv_iconst (v := 1) hx hb dX10_number2_142 (by decide) ?_
              refine va_put (ci := 9) (v := .int 1) hx hb hts iX10 tyX10 tyX10_ok nmX10 hown hK hP hD hS 0 rfl rfl 41 (by decide) (hts _ w_852) (fun _ h9 => h9) rfl (tyX10_ok 41 (by decide)) rfl rfl (Nat.le_of_ble_eq_true rfl) dX10_number2_143 (fun H locs hP hD hS => ?_)
              have hP : va_P g.1 vwCl (zm_ws g h ad (zm_s (zm_s (zm_s M 36 (M.1 36 - 1)) 38 v.toInt32) 41 1)) H := hP
              have hD : va_D A (zm_ws g h ad (zm_s (zm_s (zm_s M 36 (M.1 36 - 1)) 38 v.toInt32) 41 1)) := hD
              refine lv_aload_n hx hb dX10_number2_146 rfl (lv_at hl 0 rfl) ?_
              refine va_get (ci := 9) (v := .int (M.1 40)) hx hb hts iX10 hown hK hP 0 rfl rfl 40 (by decide) (hts _ w_851) (fun _ h9 => h9) rfl dX10_number2_147 ?_
              refine lv_if_ne (tgt := 163) hx hb dX10_number2_150 (by decide) (fun c_150 => ?_) (fun c_150 => ?_)
              · exact absurd c_92 c_150
              · refine lv_aload_n hx hb dX10_number2_153 rfl (lv_at hl 0 rfl) ?_
                refine va_get (ci := 9) (v := .int v.toInt32) hx hb hts iX10 hown hK hP 0 rfl rfl 38 (by decide) (hts _ w_849) (fun _ h9 => h9) rfl dX10_number2_154 ?_
                refine lv_sipush (v := 128) hx hb dX10_number2_157 (by decide) ?_
                refine za_icmp_ge (tgt := 174) hx hb dX10_number2_160 (by decide) (fun c_160 => ?_) (fun c_160 => ?_)
                · have J_202 : ∀ v9 : Int32, v9 = (zr_un v.toInt32) → W p l e (za_R 3 0 0) s m args below meth co H locs 0 0 Q (F0 m 202 ls (.int v9 :: [])) := by
                    intro v_202 hv_202
                    refine lv_istore (lv' := [(8, .int v_202), (0, .ref h), (1, .int x), (2, .long v), (4, .long (zr_least v j)), (6, .long (zr_most v j))]) hx hb dX10_number2_202 hl (by decide) rfl (fun ls hl => ?_)
                    refine lv_aload_n hx hb dX10_number2_204 rfl (lv_at hl 1 rfl) ?_
                    have J_232 : ∀ v9 : Int32, v9 = (zr_uf v_202) → W p l e (za_R 3 0 0) s m args below meth co H locs 0 0 Q (F0 m 232 ls (.int v9 :: [.ref h])) := by
                      intro v_232 hv_232
                      refine lv_aload_n hx hb dX10_number2_232 rfl (lv_at hl 1 rfl) ?_
                      refine va_get (ci := 9) (v := .int v.toInt32) hx hb hts iX10 hown hK hP 0 rfl rfl 38 (by decide) (hts _ w_849) (fun _ h9 => h9) rfl dX10_number2_233 ?_
                      refine lv_bipush (v := 6) hx hb dX10_number2_236 (by decide) ?_
                      refine lv_iload hx hb dX10_number2_238 (lv_at hl 0 rfl) ?_
                      refine lv_imul hx hb dX10_number2_240 ?_
                      refine lv_ishr hx hb dX10_number2_241 ?_
                      refine lv_ior hx hb dX10_number2_242 ?_
                      refine za_cv (wc := zm_ws g h ad (zm_s (zm_s (zm_s M 36 (M.1 36 - 1)) 38 v.toInt32) 41 1)) (wr := []) C hP hD hS [0, 1, 2, 3, 4, 5, 6, 7, 8, 9, 10, 11, 12, 13, 14, 15, 16, 17] [] rfl rfl (by decide) (by decide) (za_runV C hP hD hS [0, 1, 2, 3, 4, 5, 6, 7, 8, 9, 10, 11, 12, 13, 14, 15, 16, 17] rfl (by decide) rfl (kX10_keep l g E h ad (zm_s (zm_s (zm_s M 36 (M.1 36 - 1)) 38 v.toInt32) 41 1) (v_232 ||| (v.toInt32 >>> ((6 * v_202) &&& 31))) (zm_K_in (n := 3) hk)) w_1027 mX10_keep 0 rfl rfl rfl rfl hl.1 rfl (Nat.le_of_ble_eq_true rfl) dX10_number2_243 ⟨by decide, by decide⟩ ⟨by decide, by decide⟩) (fun M3 H locs hM3 hP hD hS => ?_)
                      have hP : va_P g.1 vwCl (zm_ws g h ad M3) H := hP
                      have hD : va_D A (zm_ws g h ad M3) := hD
                      refine lv_iload hx hb dX10_number2_246 (lv_at hl 0 rfl) ?_
                      refine lv_iconst (v := 1) hx hb dX10_number2_248 (by decide) ?_
                      refine lv_isub hx hb dX10_number2_249 ?_
                      refine lv_istore (lv' := [(9, .int (v_202 - 1)), (8, .int v_202), (0, .ref h), (1, .int x), (2, .long v), (4, .long (zr_least v j)), (6, .long (zr_most v j))]) hx hb dX10_number2_250 hl (by decide) rfl (fun ls hl => ?_)
                      obtain ⟨N9, hN9⟩ := zr_un_N (v.toInt32)
                      have hn9 : v_202 = nI N9 := by rw [hv_202]; exact hN9.1
                      have hu9 : M3 = zm_utf (zm_s (zm_s (zm_s M 36 (M.1 36 - 1)) 38 v.toInt32) 41 1) v_202 0 := by rw [hM3, hv_232]; rfl
                      rw [hu9] at hP hD
                      have hf9 : zm_number2 M x = zm_utf (zm_s (zm_s (zm_s M 36 (M.1 36 - 1)) 38 v.toInt32) 41 1) v_202 N9 := by
                        have e9 : (zr_un v.toInt32).toNatClampNeg = N9 := by rw [hN9.1]; exact nI_clamp (by omega)
                        simp [zm_number2, zq_upd, hw, hjD, ← hv, e9, hv_202, c_59, eq_true c_92, c_101, c_110, c_137, eq_true c_150, c_160]
                      have hk9 : zm_K (zm_utf (zm_s (zm_s (zm_s M 36 (M.1 36 - 1)) 38 v.toInt32) 41 1) v_202 0) (N9 - 0) := zm_K_le (zm_K_keep (n := 3) (M := zm_s (zm_s (zm_s M 36 (M.1 36 - 1)) 38 v.toInt32) 41 1) hk) (by omega)
                      exact kL_utf l g E h ad M x (zm_s (zm_s (zm_s M 36 (M.1 36 - 1)) 38 v.toInt32) 41 1) v_202 N9 hn9 hN9.2.2 hf9 C hQ hr hlocks _ 0 (Nat.zero_le _) hk9 (Nat.lt_succ_self _) H locs ls hS hP hD (lv_sub hl [2, 1, 0] rfl)
                    refine lv_iload hx hb dX10_number2_205 (lv_at hl 0 rfl) ?_
                    refine lv_iconst (v := 1) hx hb dX10_number2_207 (by decide) ?_
                    refine lv_icmp_ne (tgt := 217) hx hb dX10_number2_208 (by decide) (fun c_208 => ?_) (fun c_208 => ?_)
                    · refine lv_iload hx hb dX10_number2_217 (lv_at hl 0 rfl) ?_
                      refine lv_iconst (v := 2) hx hb dX10_number2_219 (by decide) ?_
                      refine lv_icmp_ne (tgt := 229) hx hb dX10_number2_220 (by decide) (fun c_220 => ?_) (fun c_220 => ?_)
                      · refine lv_sipush (v := 240) hx hb dX10_number2_229 (by decide) ?_
                        exact J_232 240 (by simp [zr_uf, c_59, eq_true c_92, c_101, c_110, c_137, eq_true c_150, c_160, c_208, c_220])
                      · refine lv_sipush (v := 224) hx hb dX10_number2_223 (by decide) ?_
                        refine lv_goto (tgt := 232) hx hb dX10_number2_226 (by decide) ?_
                        exact J_232 224 (by simp [zr_uf, c_59, eq_true c_92, c_101, c_110, c_137, eq_true c_150, c_160, c_208, eq_true c_220])
                    · refine lv_sipush (v := 192) hx hb dX10_number2_211 (by decide) ?_
                      refine lv_goto (tgt := 232) hx hb dX10_number2_214 (by decide) ?_
                      exact J_232 192 (by simp [zr_uf, c_59, eq_true c_92, c_101, c_110, c_137, eq_true c_150, c_160, eq_true c_208])
                  refine lv_aload_n hx hb dX10_number2_174 rfl (lv_at hl 0 rfl) ?_
                  refine va_get (ci := 9) (v := .int v.toInt32) hx hb hts iX10 hown hK hP 0 rfl rfl 38 (by decide) (hts _ w_849) (fun _ h9 => h9) rfl dX10_number2_175 ?_
                  refine lv_sipush (v := 2048) hx hb dX10_number2_178 (by decide) ?_
                  refine za_icmp_ge (tgt := 188) hx hb dX10_number2_181 (by decide) (fun c_181 => ?_) (fun c_181 => ?_)
                  · refine lv_aload_n hx hb dX10_number2_188 rfl (lv_at hl 0 rfl) ?_
                    refine va_get (ci := 9) (v := .int v.toInt32) hx hb hts iX10 hown hK hP 0 rfl rfl 38 (by decide) (hts _ w_849) (fun _ h9 => h9) rfl dX10_number2_189 ?_
                    refine lv_ldc (v := 65536) hx hb hown (hts _ w_810) dX10_number2_192 ?_
                    refine za_icmp_ge (tgt := 201) hx hb dX10_number2_194 (by decide) (fun c_194 => ?_) (fun c_194 => ?_)
                    · refine lv_iconst (v := 3) hx hb dX10_number2_201 (by decide) ?_
                      exact J_202 3 (by simp [zr_un, c_59, eq_true c_92, c_101, c_110, c_137, eq_true c_150, c_160, c_181, c_194])
                    · refine lv_iconst (v := 2) hx hb dX10_number2_197 (by decide) ?_
                      refine lv_goto (tgt := 202) hx hb dX10_number2_198 (by decide) ?_
                      exact J_202 2 (by simp [zr_un, c_59, eq_true c_92, c_101, c_110, c_137, eq_true c_150, c_160, c_181, c_194])
                  · refine lv_iconst (v := 1) hx hb dX10_number2_184 (by decide) ?_
                    refine lv_goto (tgt := 202) hx hb dX10_number2_185 (by decide) ?_
                    exact J_202 1 (by simp [zr_un, c_59, eq_true c_92, c_101, c_110, c_137, eq_true c_150, c_160, c_181])
                · refine lv_aload_n hx hb dX10_number2_163 rfl (lv_at hl 0 rfl) ?_
                  refine lv_aload_n hx hb dX10_number2_164 rfl (lv_at hl 0 rfl) ?_
                  refine va_get (ci := 9) (v := .int v.toInt32) hx hb hts iX10 hown hK hP 0 rfl rfl 38 (by decide) (hts _ w_849) (fun _ h9 => h9) rfl dX10_number2_165 ?_
                  refine za_cv (wc := zm_ws g h ad (zm_s (zm_s (zm_s M 36 (M.1 36 - 1)) 38 v.toInt32) 41 1)) (wr := []) C hP hD hS [0, 1, 2, 3, 4, 5, 6, 7, 8, 9, 10, 11, 12, 13, 14, 15, 16, 17] [] rfl rfl (by decide) (by decide) (za_runV C hP hD hS [0, 1, 2, 3, 4, 5, 6, 7, 8, 9, 10, 11, 12, 13, 14, 15, 16, 17] rfl (by decide) rfl (kX10_keep l g E h ad (zm_s (zm_s (zm_s M 36 (M.1 36 - 1)) 38 v.toInt32) 41 1) v.toInt32 (zm_K_in (n := 3) hk)) w_1027 mX10_keep 0 rfl rfl rfl rfl hl.1 rfl (Nat.le_of_ble_eq_true rfl) dX10_number2_168 ⟨by decide, by decide⟩ ⟨by decide, by decide⟩) (fun M4 H locs hM4 hP hD hS => ?_)
                  have hP : va_P g.1 vwCl (zm_ws g h ad M4) H := hP
                  have hD : va_D A (zm_ws g h ad M4) := hD
                  refine lv_goto (tgt := 284) hx hb dX10_number2_171 (by decide) ?_
                  subst hM4
                  exact zm_rv hQ hx hb hr hlocks hK hP hD hS (by simp [zm_number2, zq_upd, hw, hjD, ← hv, c_59, eq_true c_92, c_101, c_110, c_137, eq_true c_150, c_160]) dX10_number2_284
            · exact zm_rv hQ hx hb hr hlocks hK hP hD hS (by simp [zm_number2, zq_upd, hw, hjD, ← hv, c_59, eq_true c_92, c_101, c_110, c_137]) dX10_number2_140
          · refine lv_lload hx hb dX10_number2_113 (lv_at hl 4 rfl) ?_
            refine lv_ldc2 (v := 57343) hx hb hown (hts _ w_1074) dX10_number2_115 ?_
            refine W.lcmp hx hb dX10_number2_118 ?_
            refine lv_if_gt (tgt := 127) hx hb dX10_number2_119 (by decide) (fun c_119 => ?_) (fun c_119 => ?_)
            · refine lv_aload_n hx hb dX10_number2_127 rfl (lv_at hl 0 rfl) ?_
              refine lv_lload_n hx hb dX10_number2_128 rfl (lv_at hl 2 rfl) ?_
              refine lv_l2i (v := v.toInt32) hx hb dX10_number2_129 rfl ?_
              refine va_put (ci := 9) (v := .int v.toInt32) hx hb hts iX10 tyX10 tyX10_ok nmX10 hown hK hP hD hS 0 rfl rfl 38 (by decide) (hts _ w_849) (fun _ h9 => h9) rfl (tyX10_ok 38 (by decide)) rfl rfl (Nat.le_of_ble_eq_true rfl) dX10_number2_130 (fun H locs hP hD hS => ?_)
              have hP : va_P g.1 vwCl (zm_ws g h ad (zm_s (zm_s M 36 (M.1 36 - 1)) 38 v.toInt32)) H := hP
              have hD : va_D A (zm_ws g h ad (zm_s (zm_s M 36 (M.1 36 - 1)) 38 v.toInt32)) := hD
              refine lv_aload_n hx hb dX10_number2_133 rfl (lv_at hl 0 rfl) ?_
              refine va_get (ci := 9) (v := .int (M.1 36 - 1)) hx hb hts iX10 hown hK hP 0 rfl rfl 36 (by decide) (hts _ w_847) (fun _ h9 => h9) rfl dX10_number2_134 ?_
              refine za_if_le (tgt := 141) hx hb dX10_number2_137 (by decide) (fun c_137 => ?_) (fun c_137 => ?_)
              · refine lv_aload_n hx hb dX10_number2_141 rfl (lv_at hl 0 rfl) ?_
                refine lv_iconst (v := 1) hx hb dX10_number2_142 (by decide) ?_
                refine va_put (ci := 9) (v := .int 1) hx hb hts iX10 tyX10 tyX10_ok nmX10 hown hK hP hD hS 0 rfl rfl 41 (by decide) (hts _ w_852) (fun _ h9 => h9) rfl (tyX10_ok 41 (by decide)) rfl rfl (Nat.le_of_ble_eq_true rfl) dX10_number2_143 (fun H locs hP hD hS => ?_)
                have hP : va_P g.1 vwCl (zm_ws g h ad (zm_s (zm_s (zm_s M 36 (M.1 36 - 1)) 38 v.toInt32) 41 1)) H := hP
                have hD : va_D A (zm_ws g h ad (zm_s (zm_s (zm_s M 36 (M.1 36 - 1)) 38 v.toInt32) 41 1)) := hD
                refine lv_aload_n hx hb dX10_number2_146 rfl (lv_at hl 0 rfl) ?_
                refine va_get (ci := 9) (v := .int (M.1 40)) hx hb hts iX10 hown hK hP 0 rfl rfl 40 (by decide) (hts _ w_851) (fun _ h9 => h9) rfl dX10_number2_147 ?_
                refine lv_if_ne (tgt := 163) hx hb dX10_number2_150 (by decide) (fun c_150 => ?_) (fun c_150 => ?_)
                · exact absurd c_92 c_150
                · refine lv_aload_n hx hb dX10_number2_153 rfl (lv_at hl 0 rfl) ?_
                  refine va_get (ci := 9) (v := .int v.toInt32) hx hb hts iX10 hown hK hP 0 rfl rfl 38 (by decide) (hts _ w_849) (fun _ h9 => h9) rfl dX10_number2_154 ?_
                  refine lv_sipush (v := 128) hx hb dX10_number2_157 (by decide) ?_
                  refine za_icmp_ge (tgt := 174) hx hb dX10_number2_160 (by decide) (fun c_160 => ?_) (fun c_160 => ?_)
                  · have J_202 : ∀ v9 : Int32, v9 = (zr_un v.toInt32) → W p l e (za_R 3 0 0) s m args below meth co H locs 0 0 Q (F0 m 202 ls (.int v9 :: [])) := by
                      intro v_202 hv_202
                      refine lv_istore (lv' := [(8, .int v_202), (0, .ref h), (1, .int x), (2, .long v), (4, .long (zr_least v j)), (6, .long (zr_most v j))]) hx hb dX10_number2_202 hl (by decide) rfl (fun ls hl => ?_)
                      refine lv_aload_n hx hb dX10_number2_204 rfl (lv_at hl 1 rfl) ?_
                      have J_232 : ∀ v9 : Int32, v9 = (zr_uf v_202) → W p l e (za_R 3 0 0) s m args below meth co H locs 0 0 Q (F0 m 232 ls (.int v9 :: [.ref h])) := by
                        intro v_232 hv_232
                        refine lv_aload_n hx hb dX10_number2_232 rfl (lv_at hl 1 rfl) ?_
                        refine va_get (ci := 9) (v := .int v.toInt32) hx hb hts iX10 hown hK hP 0 rfl rfl 38 (by decide) (hts _ w_849) (fun _ h9 => h9) rfl dX10_number2_233 ?_
                        refine lv_bipush (v := 6) hx hb dX10_number2_236 (by decide) ?_
                        refine lv_iload hx hb dX10_number2_238 (lv_at hl 0 rfl) ?_
                        refine lv_imul hx hb dX10_number2_240 ?_
                        refine lv_ishr hx hb dX10_number2_241 ?_
                        refine lv_ior hx hb dX10_number2_242 ?_
                        refine za_cv (wc := zm_ws g h ad (zm_s (zm_s (zm_s M 36 (M.1 36 - 1)) 38 v.toInt32) 41 1)) (wr := []) C hP hD hS [0, 1, 2, 3, 4, 5, 6, 7, 8, 9, 10, 11, 12, 13, 14, 15, 16, 17] [] rfl rfl (by decide) (by decide) (za_runV C hP hD hS [0, 1, 2, 3, 4, 5, 6, 7, 8, 9, 10, 11, 12, 13, 14, 15, 16, 17] rfl (by decide) rfl (kX10_keep l g E h ad (zm_s (zm_s (zm_s M 36 (M.1 36 - 1)) 38 v.toInt32) 41 1) (v_232 ||| (v.toInt32 >>> ((6 * v_202) &&& 31))) (zm_K_in (n := 3) hk)) w_1027 mX10_keep 0 rfl rfl rfl rfl hl.1 rfl (Nat.le_of_ble_eq_true rfl) dX10_number2_243 ⟨by decide, by decide⟩ ⟨by decide, by decide⟩) (fun M5 H locs hM5 hP hD hS => ?_)
                        have hP : va_P g.1 vwCl (zm_ws g h ad M5) H := hP
                        have hD : va_D A (zm_ws g h ad M5) := hD
                        refine lv_iload hx hb dX10_number2_246 (lv_at hl 0 rfl) ?_
                        refine lv_iconst (v := 1) hx hb dX10_number2_248 (by decide) ?_
                        refine lv_isub hx hb dX10_number2_249 ?_
                        refine lv_istore (lv' := [(9, .int (v_202 - 1)), (8, .int v_202), (0, .ref h), (1, .int x), (2, .long v), (4, .long (zr_least v j)), (6, .long (zr_most v j))]) hx hb dX10_number2_250 hl (by decide) rfl (fun ls hl => ?_)
                        obtain ⟨N9, hN9⟩ := zr_un_N (v.toInt32)
                        have hn9 : v_202 = nI N9 := by rw [hv_202]; exact hN9.1
                        have hu9 : M5 = zm_utf (zm_s (zm_s (zm_s M 36 (M.1 36 - 1)) 38 v.toInt32) 41 1) v_202 0 := by rw [hM5, hv_232]; rfl
                        rw [hu9] at hP hD
                        have hf9 : zm_number2 M x = zm_utf (zm_s (zm_s (zm_s M 36 (M.1 36 - 1)) 38 v.toInt32) 41 1) v_202 N9 := by
                          have e9 : (zr_un v.toInt32).toNatClampNeg = N9 := by rw [hN9.1]; exact nI_clamp (by omega)
                          simp [zm_number2, zq_upd, hw, hjD, ← hv, e9, hv_202, c_59, eq_true c_92, c_101, c_110, c_119, c_137, eq_true c_150, c_160]
                        have hk9 : zm_K (zm_utf (zm_s (zm_s (zm_s M 36 (M.1 36 - 1)) 38 v.toInt32) 41 1) v_202 0) (N9 - 0) := zm_K_le (zm_K_keep (n := 3) (M := zm_s (zm_s (zm_s M 36 (M.1 36 - 1)) 38 v.toInt32) 41 1) hk) (by omega)
                        exact kL_utf l g E h ad M x (zm_s (zm_s (zm_s M 36 (M.1 36 - 1)) 38 v.toInt32) 41 1) v_202 N9 hn9 hN9.2.2 hf9 C hQ hr hlocks _ 0 (Nat.zero_le _) hk9 (Nat.lt_succ_self _) H locs ls hS hP hD (lv_sub hl [2, 1, 0] rfl)
                      refine lv_iload hx hb dX10_number2_205 (lv_at hl 0 rfl) ?_
                      refine lv_iconst (v := 1) hx hb dX10_number2_207 (by decide) ?_
                      refine lv_icmp_ne (tgt := 217) hx hb dX10_number2_208 (by decide) (fun c_208 => ?_) (fun c_208 => ?_)
                      · refine lv_iload hx hb dX10_number2_217 (lv_at hl 0 rfl) ?_
                        refine lv_iconst (v := 2) hx hb dX10_number2_219 (by decide) ?_
                        refine lv_icmp_ne (tgt := 229) hx hb dX10_number2_220 (by decide) (fun c_220 => ?_) (fun c_220 => ?_)
                        · refine lv_sipush (v := 240) hx hb dX10_number2_229 (by decide) ?_
                          exact J_232 240 (by simp [zr_uf, c_59, eq_true c_92, c_101, c_110, c_119, c_137, eq_true c_150, c_160, c_208, c_220])
                        · refine lv_sipush (v := 224) hx hb dX10_number2_223 (by decide) ?_
                          refine lv_goto (tgt := 232) hx hb dX10_number2_226 (by decide) ?_
                          exact J_232 224 (by simp [zr_uf, c_59, eq_true c_92, c_101, c_110, c_119, c_137, eq_true c_150, c_160, c_208, eq_true c_220])
                      · refine lv_sipush (v := 192) hx hb dX10_number2_211 (by decide) ?_
                        refine lv_goto (tgt := 232) hx hb dX10_number2_214 (by decide) ?_
                        exact J_232 192 (by simp [zr_uf, c_59, eq_true c_92, c_101, c_110, c_119, c_137, eq_true c_150, c_160, eq_true c_208])
                    refine lv_aload_n hx hb dX10_number2_174 rfl (lv_at hl 0 rfl) ?_
                    refine va_get (ci := 9) (v := .int v.toInt32) hx hb hts iX10 hown hK hP 0 rfl rfl 38 (by decide) (hts _ w_849) (fun _ h9 => h9) rfl dX10_number2_175 ?_
                    refine lv_sipush (v := 2048) hx hb dX10_number2_178 (by decide) ?_
                    refine za_icmp_ge (tgt := 188) hx hb dX10_number2_181 (by decide) (fun c_181 => ?_) (fun c_181 => ?_)
                    · refine lv_aload_n hx hb dX10_number2_188 rfl (lv_at hl 0 rfl) ?_
                      refine va_get (ci := 9) (v := .int v.toInt32) hx hb hts iX10 hown hK hP 0 rfl rfl 38 (by decide) (hts _ w_849) (fun _ h9 => h9) rfl dX10_number2_189 ?_
                      refine lv_ldc (v := 65536) hx hb hown (hts _ w_810) dX10_number2_192 ?_
                      refine za_icmp_ge (tgt := 201) hx hb dX10_number2_194 (by decide) (fun c_194 => ?_) (fun c_194 => ?_)
                      · refine lv_iconst (v := 3) hx hb dX10_number2_201 (by decide) ?_
                        exact J_202 3 (by simp [zr_un, c_59, eq_true c_92, c_101, c_110, c_119, c_137, eq_true c_150, c_160, c_181, c_194])
                      · refine lv_iconst (v := 2) hx hb dX10_number2_197 (by decide) ?_
                        refine lv_goto (tgt := 202) hx hb dX10_number2_198 (by decide) ?_
                        exact J_202 2 (by simp [zr_un, c_59, eq_true c_92, c_101, c_110, c_119, c_137, eq_true c_150, c_160, c_181, c_194])
                    · refine lv_iconst (v := 1) hx hb dX10_number2_184 (by decide) ?_
                      refine lv_goto (tgt := 202) hx hb dX10_number2_185 (by decide) ?_
                      exact J_202 1 (by simp [zr_un, c_59, eq_true c_92, c_101, c_110, c_119, c_137, eq_true c_150, c_160, c_181])
                  · refine lv_aload_n hx hb dX10_number2_163 rfl (lv_at hl 0 rfl) ?_
                    refine lv_aload_n hx hb dX10_number2_164 rfl (lv_at hl 0 rfl) ?_
                    refine va_get (ci := 9) (v := .int v.toInt32) hx hb hts iX10 hown hK hP 0 rfl rfl 38 (by decide) (hts _ w_849) (fun _ h9 => h9) rfl dX10_number2_165 ?_
                    refine za_cv (wc := zm_ws g h ad (zm_s (zm_s (zm_s M 36 (M.1 36 - 1)) 38 v.toInt32) 41 1)) (wr := []) C hP hD hS [0, 1, 2, 3, 4, 5, 6, 7, 8, 9, 10, 11, 12, 13, 14, 15, 16, 17] [] rfl rfl (by decide) (by decide) (za_runV C hP hD hS [0, 1, 2, 3, 4, 5, 6, 7, 8, 9, 10, 11, 12, 13, 14, 15, 16, 17] rfl (by decide) rfl (kX10_keep l g E h ad (zm_s (zm_s (zm_s M 36 (M.1 36 - 1)) 38 v.toInt32) 41 1) v.toInt32 (zm_K_in (n := 3) hk)) w_1027 mX10_keep 0 rfl rfl rfl rfl hl.1 rfl (Nat.le_of_ble_eq_true rfl) dX10_number2_168 ⟨by decide, by decide⟩ ⟨by decide, by decide⟩) (fun M6 H locs hM6 hP hD hS => ?_)
                    have hP : va_P g.1 vwCl (zm_ws g h ad M6) H := hP
                    have hD : va_D A (zm_ws g h ad M6) := hD
                    refine lv_goto (tgt := 284) hx hb dX10_number2_171 (by decide) ?_
                    subst hM6
                    exact zm_rv hQ hx hb hr hlocks hK hP hD hS (by simp [zm_number2, zq_upd, hw, hjD, ← hv, c_59, eq_true c_92, c_101, c_110, c_119, c_137, eq_true c_150, c_160]) dX10_number2_284
              · exact zm_rv hQ hx hb hr hlocks hK hP hD hS (by simp [zm_number2, zq_upd, hw, hjD, ← hv, c_59, eq_true c_92, c_101, c_110, c_119, c_137]) dX10_number2_140
            · refine lv_aload_n hx hb dX10_number2_122 rfl (lv_at hl 0 rfl) ?_
              refine za_cv (wc := zm_ws g h ad (zm_s M 36 (M.1 36 - 1))) (wr := []) C hP hD hS [0, 1, 2, 3, 4, 5, 6, 7, 8, 9, 10, 11, 12, 13, 14, 15, 16, 17] [] rfl rfl (by decide) (by decide) (za_runV C hP hD hS [0, 1, 2, 3, 4, 5, 6, 7, 8, 9, 10, 11, 12, 13, 14, 15, 16, 17] rfl (by decide) rfl (kX10_error l g E h ad (zm_s M 36 (M.1 36 - 1))  ) w_1010 mX10_error 0 rfl rfl rfl rfl hl.1 rfl (Nat.le_of_ble_eq_true rfl) dX10_number2_123 ⟨by decide, by decide⟩ ⟨by decide, by decide⟩) (fun M7 H locs hM7 hP hD hS => ?_)
              have hP : va_P g.1 vwCl (zm_ws g h ad M7) H := hP
              have hD : va_D A (zm_ws g h ad M7) := hD
              subst hM7
              exact zm_rv hQ hx hb hr hlocks hK hP hD hS (by simp [zm_number2, zq_upd, hw, hjD, ← hv, c_59, eq_true c_92, c_101, c_110, c_119]) dX10_number2_126
    · have hj9 : j + 1 ≤ D := by
        rcases Nat.lt_or_ge j D with h9 | h9
        · exact h9
        · (have e9 : j = D := by omega); rw [hd9, e9] at c_59; exact absurd c_59 (nI_nlt (Nat.le_refl _) (by omega))
      refine lv_lload hx hb dX10_number2_62 (lv_at hl 3 rfl) ?_
      refine lv_ldc2 (v := 16) hx hb hown (hts _ w_1070) dX10_number2_64 ?_
      refine lv_lmul hx hb dX10_number2_67 ?_
      refine lv_lstore (lv' := [(4, .long (zr_least v (j + 1))), (0, .ref h), (1, .int x), (2, .long v), (6, .long (zr_most v j)), (8, .int (nI j))]) hx hb dX10_number2_68 hl (by decide) rfl (fun ls hl => ?_)
      refine lv_lload hx hb dX10_number2_70 (lv_at hl 4 rfl) ?_
      refine lv_ldc2 (v := 16) hx hb hown (hts _ w_1070) dX10_number2_72 ?_
      refine lv_lmul hx hb dX10_number2_75 ?_
      refine lv_ldc2 (v := 15) hx hb hown (hts _ w_1071) dX10_number2_76 ?_
      refine lv_ladd hx hb dX10_number2_79 ?_
      refine lv_lstore (lv' := [(6, .long (zr_most v (j + 1))), (4, .long (zr_least v (j + 1))), (0, .ref h), (1, .int x), (2, .long v), (8, .int (nI j))]) hx hb dX10_number2_80 hl (by decide) rfl (fun ls hl => ?_)
      refine lv_iinc (v := nI (j + 1)) (lv' := [(8, .int (nI (j + 1))), (6, .long (zr_most v (j + 1))), (4, .long (zr_least v (j + 1))), (0, .ref h), (1, .int x), (2, .long v)]) hx hb dX10_number2_82 hl (k := 5) rfl (nI_1 j) (by decide) rfl (fun ls hl => ?_)
      refine lv_goto (tgt := 53) hx hb dX10_number2_85 (by decide) ?_
      exact ih (j + 1) (hj9) (by omega) H locs ls hS hP hD (lv_sub hl [3, 4, 5, 2, 1, 0] rfl)
set_option maxHeartbeats 4000000 in
set_option maxRecDepth 100000 in
theorem kX10_number2 (l : Launch) (g : za_G) (E : za_E) (h : Nat) (ad : Nat → Nat) (M : zm_M) (x : Int32) (hk : zm_K M 4) (D : Nat) (hd9 : M.1 36 - 1 = nI D) (hD9 : D < 100) : za_Cv l g E yX10_number2 cX10_number2 10 3 0 0 [.ref h, .int x] (zm_ws g h ad M) (fun u : zm_M => u = zm_number2 M x) (fun u => zm_ws g h ad u) := by
  refine za_begin (by decide) (Nat.le_of_ble_eq_true rfl) RX10 rfl ?_
  intro p e s m args below meth co A ls Q H locs C hQ hr hlocks hnm hS hP hD hl
  obtain ⟨hx, hb, hml, hown, hts, hK, hA, hE⟩ := id C
  have hl : lv_has ls 10 [(0, .ref h), (1, .int x)] := hl
  refine lv_iload_n hx hb dX10_number2_0 rfl (lv_at hl 1 rfl) ?_
  refine za_ci (wc := []) (wr := zm_ws g h ad M) C hP hD hS [] [0, 1, 2, 3, 4, 5, 6, 7, 8, 9, 10, 11, 12, 13, 14, 15, 16, 17] rfl rfl (by decide) (by decide) (za_runS C hP hD hS [] rfl (by decide) rfl (kX10_worth l g E  x ) w_1039 mX10_worth rfl hl.1 rfl (Nat.le_of_ble_eq_true rfl) dX10_number2_1 ⟨by decide, by decide⟩ ⟨by decide, by decide⟩) (fun r1 _ H locs hr1 hP hD hS => ?_)
  have hP : va_P g.1 vwCl (zm_ws g h ad M) H := hP
  have hD : va_D A (zm_ws g h ad M) := hD
  refine lv_aload_n hx hb dX10_number2_4 rfl (lv_at hl 0 rfl) ?_
  refine va_get (ci := 9) (v := .int (M.1 37)) hx hb hts iX10 hown hK hP 0 rfl rfl 37 (by decide) (hts _ w_848) (fun _ h9 => h9) rfl dX10_number2_5 ?_
  refine lv_icmp_lt (tgt := 16) hx hb dX10_number2_8 (by decide) (fun c_8 => ?_) (fun c_8 => ?_)
  · refine lv_aload_n hx hb dX10_number2_16 rfl (lv_at hl 0 rfl) ?_
    refine lv_dup hx hb dX10_number2_17 rfl ?_
    refine va_get (ci := 9) (v := .int (M.1 36)) hx hb hts iX10 hown hK hP 0 rfl rfl 36 (by decide) (hts _ w_847) (fun _ h9 => h9) rfl dX10_number2_18 ?_
    refine lv_iconst (v := 1) hx hb dX10_number2_21 (by decide) ?_
    refine lv_isub hx hb dX10_number2_22 ?_
    refine va_put (ci := 9) (v := .int ((M.1 36) - 1)) hx hb hts iX10 tyX10 tyX10_ok nmX10 hown hK hP hD hS 0 rfl rfl 36 (by decide) (hts _ w_847) (fun _ h9 => h9) rfl (tyX10_ok 36 (by decide)) rfl rfl (Nat.le_of_ble_eq_true rfl) dX10_number2_23 (fun H locs hP hD hS => ?_)
    have hP : va_P g.1 vwCl (zm_ws g h ad (zm_s M 36 ((M.1 36) - 1))) H := hP
    have hD : va_D A (zm_ws g h ad (zm_s M 36 ((M.1 36) - 1))) := hD
    refine lv_aload_n hx hb dX10_number2_26 rfl (lv_at hl 0 rfl) ?_
    refine va_get (ci := 9) (v := .int (M.1 38)) hx hb hts iX10 hown hK hP 0 rfl rfl 38 (by decide) (hts _ w_849) (fun _ h9 => h9) rfl dX10_number2_27 ?_
    refine lv_i2l (v := (M.1 38).toInt64) hx hb dX10_number2_30 rfl ?_
    refine lv_aload_n hx hb dX10_number2_31 rfl (lv_at hl 0 rfl) ?_
    refine va_get (ci := 9) (v := .int (M.1 37)) hx hb hts iX10 hown hK hP 0 rfl rfl 37 (by decide) (hts _ w_848) (fun _ h9 => h9) rfl dX10_number2_32 ?_
    refine lv_i2l (v := (M.1 37).toInt64) hx hb dX10_number2_35 rfl ?_
    refine lv_lmul hx hb dX10_number2_36 ?_
    refine lv_iload_n hx hb dX10_number2_37 rfl (lv_at hl 1 rfl) ?_
    refine za_ci (wc := []) (wr := zm_ws g h ad (zm_s M 36 ((M.1 36) - 1))) C hP hD hS [] [0, 1, 2, 3, 4, 5, 6, 7, 8, 9, 10, 11, 12, 13, 14, 15, 16, 17] rfl rfl (by decide) (by decide) (za_runS C hP hD hS [] rfl (by decide) rfl (kX10_worth l g E  x ) w_1039 mX10_worth rfl hl.1 rfl (Nat.le_of_ble_eq_true rfl) dX10_number2_38 ⟨by decide, by decide⟩ ⟨by decide, by decide⟩) (fun r2 _ H locs hr2 hP hD hS => ?_)
    have hq2 : r1 = r2 := hr1.trans hr2.symm
    subst hq2
    have hP : va_P g.1 vwCl (zm_ws g h ad (zm_s M 36 ((M.1 36) - 1))) H := hP
    have hD : va_D A (zm_ws g h ad (zm_s M 36 ((M.1 36) - 1))) := hD
    refine lv_i2l (v := r1.toInt64) hx hb dX10_number2_41 rfl ?_
    refine lv_ladd hx hb dX10_number2_42 ?_
    refine lv_lstore_n (lv' := [(2, .long ((((M.1 38).toInt64) * ((M.1 37).toInt64)) + r1.toInt64)), (0, .ref h), (1, .int x)]) hx hb dX10_number2_43 rfl hl (by decide) rfl (fun ls hl => ?_)
    refine lv_lload_n hx hb dX10_number2_44 rfl (lv_at hl 0 rfl) ?_
    refine lv_lstore (lv' := [(4, .long ((((M.1 38).toInt64) * ((M.1 37).toInt64)) + r1.toInt64)), (2, .long ((((M.1 38).toInt64) * ((M.1 37).toInt64)) + r1.toInt64)), (0, .ref h), (1, .int x)]) hx hb dX10_number2_45 hl (by decide) rfl (fun ls hl => ?_)
    refine lv_lload_n hx hb dX10_number2_47 rfl (lv_at hl 1 rfl) ?_
    refine lv_lstore (lv' := [(6, .long ((((M.1 38).toInt64) * ((M.1 37).toInt64)) + r1.toInt64)), (4, .long ((((M.1 38).toInt64) * ((M.1 37).toInt64)) + r1.toInt64)), (2, .long ((((M.1 38).toInt64) * ((M.1 37).toInt64)) + r1.toInt64)), (0, .ref h), (1, .int x)]) hx hb dX10_number2_48 hl (by decide) rfl (fun ls hl => ?_)
    refine lv_iconst (v := 0) hx hb dX10_number2_50 (by decide) ?_
    refine lv_istore (lv' := [(8, .int 0), (6, .long ((((M.1 38).toInt64) * ((M.1 37).toInt64)) + r1.toInt64)), (4, .long ((((M.1 38).toInt64) * ((M.1 37).toInt64)) + r1.toInt64)), (2, .long ((((M.1 38).toInt64) * ((M.1 37).toInt64)) + r1.toInt64)), (0, .ref h), (1, .int x)]) hx hb dX10_number2_51 hl (by decide) rfl (fun ls hl => ?_)
    exact kL_num2 l g E h ad M x _ hk D hd9 hD9 (by rw [← hr1]; exact c_8) (by rw [hr1]) C hQ hr hlocks _ 0 (Nat.zero_le _) (Nat.lt_succ_self _) H locs ls hS hP hD (lv_sub hl [4, 5, 3, 2, 1, 0] rfl)
  · refine lv_aload_n hx hb dX10_number2_11 rfl (lv_at hl 0 rfl) ?_
    refine za_cv (wc := zm_ws g h ad M) (wr := []) C hP hD hS [0, 1, 2, 3, 4, 5, 6, 7, 8, 9, 10, 11, 12, 13, 14, 15, 16, 17] [] rfl rfl (by decide) (by decide) (za_runV C hP hD hS [0, 1, 2, 3, 4, 5, 6, 7, 8, 9, 10, 11, 12, 13, 14, 15, 16, 17] rfl (by decide) rfl (kX10_error l g E h ad M  ) w_1010 mX10_error 0 rfl rfl rfl rfl hl.1 rfl (Nat.le_of_ble_eq_true rfl) dX10_number2_12 ⟨by decide, by decide⟩ ⟨by decide, by decide⟩) (fun M3 H locs hM3 hP hD hS => ?_)
    have hP : va_P g.1 vwCl (zm_ws g h ad M3) H := hP
    have hD : va_D A (zm_ws g h ad M3) := hD
    subst hM3
    subst hr1
    exact zm_rv hQ hx hb hr hlocks hK hP hD hS (by simp [zm_number2, zq_upd, c_8]) dX10_number2_15
