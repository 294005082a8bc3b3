def zr_fv (a1 a2 a3 a4 a5 k : Int32) : Int32 := if k < 4 then a1 else if k < 8 then a2 else if k < 12 then a3 else if k < 16 then a4 else a5
def zm_feedN (M : zm_M) (a1 a2 a3 a4 a5 : Int32) : Nat → zm_M
  | 0 => M
  | j + 1 => let M1 := zm_feedN M a1 a2 a3 a4 a5 j; zm_s (zm_a M1 1 (M1.1 2) (vp_nar .byte ((zr_fv a1 a2 a3 a4 a5 (nI j) >>> ((24 - 8 * (nI j - nI j / 4 * 4)) &&& 31)).toInt8.toInt32))) 2 (M1.1 2 + 1)
theorem zm_feedN_2 (M : zm_M) (a1 a2 a3 a4 a5 : Int32) {n : Nat} (h : M.1 2 = nI n) : ∀ j, (zm_feedN M a1 a2 a3 a4 a5 j).1 2 = nI (n + j) := by
  intro j
  induction j with
  | zero => exact h
  | succ j ih =>
    show (zm_feedN M a1 a2 a3 a4 a5 j).1 2 + 1 = nI (n + j + 1)
    rw [ih, nI_1]
def zr_feed (M : zm_M) : Int32 := if 65536 < M.1 2 + 20 then 0 else 1
def zm_feed (M : zm_M) (a1 a2 a3 a4 a5 : Int32) : zm_M := if 65536 < M.1 2 + 20 then zm_0 M else zm_feedN (zm_0 M) a1 a2 a3 a4 a5 20
theorem feed_20 {x : Int32} {n : Nat} (hn : x = nI n) (h6 : n ≤ 65536) (h : ¬ 65536 < x + 20) : n + 20 ≤ 65536 := by
  have e : x + 20 = nI (n + 20) := by rw [hn]; exact nI_add n 20
  rw [e] at h
  rcases Nat.lt_or_ge 65536 (n + 20) with q | q
  · exact absurd (nI_lt q (by omega)) h
  · exact q
set_option maxHeartbeats 4000000 in
set_option maxRecDepth 100000 in
theorem kL_feed (l : Launch) (g : za_G) (E : za_E) (h : Nat) (ad : Nat → Nat) (M : zm_M) (a1 a2 a3 a4 a5 : Int32) (n : Nat) (hn : M.1 2 = nI n) (hn6 : n ≤ 65536) (hx6 : ¬ 65536 < M.1 2 + 20) {p : Program} {e : Env} {s : State} {m : MethodId} {args : Array Value} {below : List Frame} {meth : Method} {co : Code} {A : Nat → Prop} {Q : State → Prop} (C : za_H p s m args co cX10_feed 8 RX10 g E A) (hQ : Q = MQ below (za_qi g (fun r (u : zm_M) => r = zr_feed M ∧ u = zm_feed M a1 a2 a3 a4 a5) (fun u => zm_ws g h ad u) A) args s 0 0 A) (hr : meth.sig.returnType = (some .boolean)) (hlocks : meth.locks = false)  : ∀ (n_ : Nat) (j : Nat), (j ≤ 20) → 20 - j < n_ → ∀ (H : Heap) (locs : List Loc) (ls : Array Slot), va_S A s.heap H locs → va_P g.1 vwCl (zm_ws g h ad (zm_feedN (zm_0 M) a1 a2 a3 a4 a5 j)) H → va_D A (zm_ws g h ad (zm_feedN (zm_0 M) a1 a2 a3 a4 a5 j)) → lv_has ls 8 [(0, .ref h), (1, .int a1), (2, .int a2), (3, .int a3), (4, .int a4), (5, .int a5), (6, .int (nI j))] → W p l e (za_R 0 0 0) s m args below meth co H locs 0 0 Q (F0 m 22 ls []) := by
  obtain ⟨hx, hb, hml, hown, hts, hK, hA, hE⟩ := id C
  intro n_
  induction n_ with
  | zero => intro j hj hm; exact absurd hm (Nat.not_lt_zero _)
  | succ n_ ih =>
    intro j hj hm H locs ls hS hP hD hl
    refine lv_iload hx hb dX10_feed_22 (lv_at hl 6 rfl) ?_
    refine lv_bipush (v := 20) hx hb dX10_feed_24 (by decide) ?_
    refine za_icmp_ge (tgt := 116) hx hb dX10_feed_26 (by decide) (fun c_26 => ?_) (fun c_26 => ?_)
    · have hj9 : j = 20 := by
        rcases Nat.lt_or_ge j 20 with h9 | h9
        · exact absurd (nI_lt h9 (by decide)) c_26
        · omega
      subst hj9
      refine lv_iconst (v := 1) hx hb dX10_feed_116 (by decide) ?_
      exact zm_riw hQ hx hb hr hlocks hK hP hD hS rfl (by simp [zr_feed, zm_feed, hx6]) (by simp [zr_feed, zm_feed, hx6]) dX10_feed_117
    · have hj9 : j + 1 ≤ 20 := by
        rcases Nat.lt_or_ge j 20 with h9 | h9
        · exact h9
        · (have e9 : j = 20 := by omega); rw [e9] at c_26; exact absurd c_26 (by decide)
      have J_75 : ∀ v9 : Int32, v9 = (zr_fv a1 a2 a3 a4 a5 (nI j)) → W p l e (za_R 0 0 0) s m args below meth co H locs 0 0 Q (F0 m 75 ls (.int v9 :: [])) := by
        intro v_75 hv_75
        refine lv_istore (lv' := [(7, .int v_75), (0, .ref h), (1, .int a1), (2, .int a2), (3, .int a3), (4, .int a4), (5, .int a5), (6, .int (nI j))]) hx hb dX10_feed_75 hl (by decide) rfl (fun ls hl => ?_)
        refine lv_aload_n hx hb dX10_feed_77 rfl (lv_at hl 1 rfl) ?_
        refine va_get (ci := 9) (v := .ref (ad 1)) hx hb hts iX10 hown hK hP 0 rfl rfl 1 (by decide) (hts _ w_812) (fun _ h9 => h9) rfl dX10_feed_78 ?_
        refine lv_aload_n hx hb dX10_feed_81 rfl (lv_at hl 1 rfl) ?_
        refine va_get (ci := 9) (v := .int ((zm_feedN (zm_0 M) a1 a2 a3 a4 a5 j).1 2)) hx hb hts iX10 hown hK hP 0 rfl rfl 2 (by decide) (hts _ w_813) (fun _ h9 => h9) rfl dX10_feed_82 ?_
        refine lv_iload hx hb dX10_feed_85 (lv_at hl 0 rfl) ?_
        refine lv_bipush (v := 24) hx hb dX10_feed_87 (by decide) ?_
        refine lv_bipush (v := 8) hx hb dX10_feed_89 (by decide) ?_
        refine lv_iload hx hb dX10_feed_91 (lv_at hl 7 rfl) ?_
        refine lv_iconst (v := 4) hx hb dX10_feed_93 (by decide) ?_
        refine lv_irem hx hb dX10_feed_94 (by decide) ?_
        refine lv_imul hx hb dX10_feed_95 ?_
        refine lv_isub hx hb dX10_feed_96 ?_
        refine lv_ishr hx hb dX10_feed_97 ?_
        refine lv_i2b (v := (v_75 >>> ((24 - (8 * ((nI j) - (nI j) / 4 * 4))) &&& 31)).toInt8.toInt32) hx hb dX10_feed_98 rfl ?_
        refine va_bast (f := (zm_feedN (zm_0 M) a1 a2 a3 a4 a5 j).2.1 1) hx hb hK hP hD hS 1 0 rfl rfl (by rw [zm_feedN_2 (zm_0 M) a1 a2 a3 a4 a5 (n := n) hn j]; have h20 := feed_20 hn hn6 hx6; exact vp_in_nI (by omega) (by omega)) dX10_feed_99 (fun H locs hP hD hS => ?_)
        have hP : va_P g.1 vwCl (zm_ws g h ad (zm_a (zm_feedN (zm_0 M) a1 a2 a3 a4 a5 j) 1 ((zm_feedN (zm_0 M) a1 a2 a3 a4 a5 j).1 2) (vp_nar .byte ((v_75 >>> ((24 - (8 * ((nI j) - (nI j) / 4 * 4))) &&& 31)).toInt8.toInt32)))) H := hP
        have hD : va_D A (zm_ws g h ad (zm_a (zm_feedN (zm_0 M) a1 a2 a3 a4 a5 j) 1 ((zm_feedN (zm_0 M) a1 a2 a3 a4 a5 j).1 2) (vp_nar .byte ((v_75 >>> ((24 - (8 * ((nI j) - (nI j) / 4 * 4))) &&& 31)).toInt8.toInt32)))) := hD
        refine lv_aload_n hx hb dX10_feed_100 rfl (lv_at hl 1 rfl) ?_
        refine lv_dup hx hb dX10_feed_101 rfl ?_
        refine va_get (ci := 9) (v := .int ((zm_feedN (zm_0 M) a1 a2 a3 a4 a5 j).1 2)) hx hb hts iX10 hown hK hP 0 rfl rfl 2 (by decide) (hts _ w_813) (fun _ h9 => h9) rfl dX10_feed_102 ?_
        refine lv_iconst (v := 1) hx hb dX10_feed_105 (by decide) ?_
        refine lv_iadd hx hb dX10_feed_106 ?_
        refine va_put (ci := 9) (v := .int (((zm_feedN (zm_0 M) a1 a2 a3 a4 a5 j).1 2) + 1)) hx hb hts iX10 tyX10 tyX10_ok nmX10 hown hK hP hD hS 0 rfl rfl 2 (by decide) (hts _ w_813) (fun _ h9 => h9) rfl (tyX10_ok 2 (by decide)) rfl rfl (Nat.le_of_ble_eq_true rfl) dX10_feed_107 (fun H locs hP hD hS => ?_)
        have hP : va_P g.1 vwCl (zm_ws g h ad (zm_s (zm_a (zm_feedN (zm_0 M) a1 a2 a3 a4 a5 j) 1 ((zm_feedN (zm_0 M) a1 a2 a3 a4 a5 j).1 2) (vp_nar .byte ((v_75 >>> ((24 - (8 * ((nI j) - (nI j) / 4 * 4))) &&& 31)).toInt8.toInt32))) 2 (((zm_feedN (zm_0 M) a1 a2 a3 a4 a5 j).1 2) + 1))) H := hP
        have hD : va_D A (zm_ws g h ad (zm_s (zm_a (zm_feedN (zm_0 M) a1 a2 a3 a4 a5 j) 1 ((zm_feedN (zm_0 M) a1 a2 a3 a4 a5 j).1 2) (vp_nar .byte ((v_75 >>> ((24 - (8 * ((nI j) - (nI j) / 4 * 4))) &&& 31)).toInt8.toInt32))) 2 (((zm_feedN (zm_0 M) a1 a2 a3 a4 a5 j).1 2) + 1))) := hD
        refine lv_iinc (v := nI (j + 1)) (lv' := [(6, .int (nI (j + 1))), (7, .int v_75), (0, .ref h), (1, .int a1), (2, .int a2), (3, .int a3), (4, .int a4), (5, .int a5)]) hx hb dX10_feed_110 hl (k := 7) rfl (nI_1 j) (by decide) rfl (fun ls hl => ?_)
        refine lv_goto (tgt := 22) hx hb dX10_feed_113 (by decide) ?_
        subst hv_75
        have hP : va_P g.1 vwCl (zm_ws g h ad (zm_feedN (zm_0 M) a1 a2 a3 a4 a5 (j + 1))) H := hP
        have hD : va_D A (zm_ws g h ad (zm_feedN (zm_0 M) a1 a2 a3 a4 a5 (j + 1))) := hD
        exact ih (j + 1) (hj9) (by omega) H locs ls hS hP hD (lv_sub hl [2, 3, 4, 5, 6, 7, 0] rfl)
      refine lv_iload hx hb dX10_feed_29 (lv_at hl 6 rfl) ?_
      refine lv_iconst (v := 4) hx hb dX10_feed_31 (by decide) ?_
      refine za_icmp_ge (tgt := 39) hx hb dX10_feed_32 (by decide) (fun c_32 => ?_) (fun c_32 => ?_)
      · refine lv_iload hx hb dX10_feed_39 (lv_at hl 6 rfl) ?_
        refine lv_bipush (v := 8) hx hb dX10_feed_41 (by decide) ?_
        refine za_icmp_ge (tgt := 50) hx hb dX10_feed_43 (by decide) (fun c_43 => ?_) (fun c_43 => ?_)
        · refine lv_iload hx hb dX10_feed_50 (lv_at hl 6 rfl) ?_
          refine lv_bipush (v := 12) hx hb dX10_feed_52 (by decide) ?_
          refine za_icmp_ge (tgt := 61) hx hb dX10_feed_54 (by decide) (fun c_54 => ?_) (fun c_54 => ?_)
          · refine lv_iload hx hb dX10_feed_61 (lv_at hl 6 rfl) ?_
            refine lv_bipush (v := 16) hx hb dX10_feed_63 (by decide) ?_
            refine za_icmp_ge (tgt := 73) hx hb dX10_feed_65 (by decide) (fun c_65 => ?_) (fun c_65 => ?_)
            · refine lv_iload hx hb dX10_feed_73 (lv_at hl 5 rfl) ?_
              exact J_75 a5 (by simp [zr_fv, c_26, c_32, c_43, c_54, c_65])
            · refine lv_iload hx hb dX10_feed_68 (lv_at hl 4 rfl) ?_
              refine lv_goto (tgt := 75) hx hb dX10_feed_70 (by decide) ?_
              exact J_75 a4 (by simp [zr_fv, c_26, c_32, c_43, c_54, c_65])
          · refine lv_iload_n hx hb dX10_feed_57 rfl (lv_at hl 3 rfl) ?_
            refine lv_goto (tgt := 75) hx hb dX10_feed_58 (by decide) ?_
            exact J_75 a3 (by simp [zr_fv, c_26, c_32, c_43, c_54])
        · refine lv_iload_n hx hb dX10_feed_46 rfl (lv_at hl 2 rfl) ?_
          refine lv_goto (tgt := 75) hx hb dX10_feed_47 (by decide) ?_
          exact J_75 a2 (by simp [zr_fv, c_26, c_32, c_43])
      · refine lv_iload_n hx hb dX10_feed_35 rfl (lv_at hl 1 rfl) ?_
        refine lv_goto (tgt := 75) hx hb dX10_feed_36 (by decide) ?_
        exact J_75 a1 (by simp [zr_fv, c_26, c_32])
set_option maxHeartbeats 4000000 in
set_option maxRecDepth 100000 in
theorem kX10_feed (l : Launch) (g : za_G) (E : za_E) (h : Nat) (ad : Nat → Nat) (M : zm_M) (a1 a2 a3 a4 a5 : Int32) (n : Nat) (hn : M.1 2 = nI n) (hn6 : n ≤ 65536) : za_Ci l g E yX10_feed cX10_feed 8 ((some .boolean)) 0 0 0 [.ref h, .int a1, .int a2, .int a3, .int a4, .int a5] (zm_ws g h ad M) (fun r (u : zm_M) => r = zr_feed M ∧ u = zm_feed M a1 a2 a3 a4 a5) (fun u => zm_ws g h ad u) := by
  refine za_begin (by decide) (Nat.le_of_ble_eq_true rfl) RX10 rfl ?_
  intro p e s m args below meth co A ls Q H locs C hQ hr hlocks hnm hS hP hD hl
  obtain ⟨hx, hb, hml, hown, hts, hK, hA, hE⟩ := id C
  have hl : lv_has ls 8 [(0, .ref h), (1, .int a1), (2, .int a2), (3, .int a3), (4, .int a4), (5, .int a5)] := hl
  refine lv_aload_n hx hb dX10_feed_0 rfl (lv_at hl 0 rfl) ?_
  refine lv_iconst (v := 0) hx hb dX10_feed_1 (by decide) ?_
  refine va_put (ci := 9) (v := .int 0) hx hb hts iX10 tyX10 tyX10_ok nmX10 hown hK hP hD hS 0 rfl rfl 0 (by decide) (hts _ w_811) (fun _ h9 => h9) rfl (tyX10_ok 0 (by decide)) rfl rfl (Nat.le_of_ble_eq_true rfl) dX10_feed_2 (fun H locs hP hD hS => ?_)
  have hP : va_P g.1 vwCl (zm_ws g h ad (zm_s M 0 0)) H := hP
  have hD : va_D A (zm_ws g h ad (zm_s M 0 0)) := hD
  refine lv_aload_n hx hb dX10_feed_5 rfl (lv_at hl 0 rfl) ?_
  refine va_get (ci := 9) (v := .int (M.1 2)) hx hb hts iX10 hown hK hP 0 rfl rfl 2 (by decide) (hts _ w_813) (fun _ h9 => h9) rfl dX10_feed_6 ?_
  refine lv_bipush (v := 20) hx hb dX10_feed_9 (by decide) ?_
  refine lv_iadd hx hb dX10_feed_11 ?_
  refine lv_ldc (v := 65536) hx hb hown (hts _ w_810) dX10_feed_12 ?_
  refine za_icmp_le (tgt := 19) hx hb dX10_feed_14 (by decide) (fun c_14 => ?_) (fun c_14 => ?_)
  · refine lv_iconst (v := 0) hx hb dX10_feed_19 (by decide) ?_
    refine lv_istore (lv' := [(6, .int 0), (0, .ref h), (1, .int a1), (2, .int a2), (3, .int a3), (4, .int a4), (5, .int a5)]) hx hb dX10_feed_20 hl (by decide) rfl (fun ls hl => ?_)
    exact kL_feed l g E h ad M a1 a2 a3 a4 a5 n hn hn6 c_14 C hQ hr hlocks _ 0 (by decide) (Nat.lt_succ_self _) H locs ls hS hP hD (lv_sub hl [1, 2, 3, 4, 5, 6, 0] rfl)
  · refine lv_iconst (v := 0) hx hb dX10_feed_17 (by decide) ?_
    exact zm_riw hQ hx hb hr hlocks hK hP hD hS rfl (by simp [zr_feed, zm_feed, zm_0, zq_upd, c_14]) (by simp [zr_feed, zm_feed, zm_0, zq_upd, c_14]) dX10_feed_18
