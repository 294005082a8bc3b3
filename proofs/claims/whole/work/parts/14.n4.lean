theorem zq_in {M : zm_M} {k : Int32} (hT : zm_T M) (h0 : ¬ k < 0) (h : k < M.1 3) : vp_in k 16384 := by
  have h2 := hT.2
  rw [vp_in_iff]
  rw [Int32.lt_iff_toInt_lt] at h0 h h2
  have e0 : (0 : Int32).toInt = 0 := rfl
  have e2 : (16384 : Int32).toInt = 16384 := rfl
  rw [e0] at h0
  rw [e2] at h2
  omega
set_option maxHeartbeats 4000000 in
set_option maxRecDepth 100000 in
theorem kX10_thrown (l : Launch) (g : za_G) (E : za_E) (h : Nat) (ad : Nat → Nat) (M : zm_M)  : za_Ci l g E yX10_thrown cX10_thrown 1 ((some .int)) 0 0 0 [.ref h] (zm_ws g h ad M) (fun r (_ : Unit) => r = M.1 0) (fun _ => zm_ws g h ad M) := by
  refine za_begin (by decide) (Nat.le_of_ble_eq_true rfl) RX10 rfl ?_
  intro p e s m args below meth co A ls Q H locs C hQ hr hlocks hnm hS hP hD hl
  obtain ⟨hx, hb, hml, hown, hts, hK, hA, hE⟩ := id C
  have hl : lv_has ls 1 [(0, .ref h)] := hl
  refine lv_aload_n hx hb dX10_thrown_0 rfl (lv_at hl 0 rfl) ?_
  refine va_get (ci := 9) (v := .int (M.1 0)) hx hb hts iX10 hown hK hP 0 rfl rfl 0 (by decide) (hts _ w_811) (fun _ h9 => h9) rfl dX10_thrown_1 ?_
  exact zm_ri hQ hx hb hr hlocks hK hP hD hS rfl (by first | rfl | simp [zq_upd]) dX10_thrown_4
set_option maxHeartbeats 4000000 in
set_option maxRecDepth 100000 in
theorem kX10_fail (l : Launch) (g : za_G) (E : za_E) (h : Nat) (ad : Nat → Nat) (M : zm_M)  : za_Ci l g E yX10_fail cX10_fail 1 ((some .int)) 0 0 0 [.ref h] (zm_ws g h ad M) (fun r (u : zm_M) => r = 0 ∧ u = zm_fail M) (fun u => zm_ws g h ad u) := by
  refine za_begin (by decide) (Nat.le_of_ble_eq_true rfl) RX10 rfl ?_
  intro p e s m args below meth co A ls Q H locs C hQ hr hlocks hnm hS hP hD hl
  obtain ⟨hx, hb, hml, hown, hts, hK, hA, hE⟩ := id C
  have hl : lv_has ls 1 [(0, .ref h)] := hl
  refine lv_aload_n hx hb dX10_fail_0 rfl (lv_at hl 0 rfl) ?_
  refine lv_iconst (v := 1) hx hb dX10_fail_1 (by decide) ?_
  refine va_put (ci := 9) (v := .int 1) hx hb hts iX10 tyX10 tyX10_ok nmX10 hown hK hP hD hS 0 rfl rfl 0 (by decide) (hts _ w_811) (fun _ h9 => h9) rfl (tyX10_ok 0 (by decide)) rfl rfl (Nat.le_of_ble_eq_true rfl) dX10_fail_2 (fun H locs hP hD hS => ?_)
  have hP : va_P g.1 vwCl (zm_ws g h ad (zm_s M 0 1)) H := hP
  have hD : va_D A (zm_ws g h ad (zm_s M 0 1)) := hD
  refine lv_iconst (v := 0) hx hb dX10_fail_5 (by decide) ?_
  exact zm_riw hQ hx hb hr hlocks hK hP hD hS rfl (by first | rfl | simp [zm_fail, zq_upd]) (by first | rfl | simp [zm_fail, zq_upd]) dX10_fail_6
set_option maxHeartbeats 4000000 in
set_option maxRecDepth 100000 in
theorem kX10_size (l : Launch) (g : za_G) (E : za_E) (h : Nat) (ad : Nat → Nat) (M : zm_M)  : za_Ci l g E yX10_size cX10_size 1 ((some .int)) 0 0 0 [.ref h] (zm_ws g h ad M) (fun r (u : zm_M) => r = M.1 2 ∧ u = zm_0 M) (fun u => zm_ws g h ad u) := by
  refine za_begin (by decide) (Nat.le_of_ble_eq_true rfl) RX10 rfl ?_
  intro p e s m args below meth co A ls Q H locs C hQ hr hlocks hnm hS hP hD hl
  obtain ⟨hx, hb, hml, hown, hts, hK, hA, hE⟩ := id C
  have hl : lv_has ls 1 [(0, .ref h)] := hl
  refine lv_aload_n hx hb dX10_size_0 rfl (lv_at hl 0 rfl) ?_
  refine lv_iconst (v := 0) hx hb dX10_size_1 (by decide) ?_
  refine va_put (ci := 9) (v := .int 0) hx hb hts iX10 tyX10 tyX10_ok nmX10 hown hK hP hD hS 0 rfl rfl 0 (by decide) (hts _ w_811) (fun _ h9 => h9) rfl (tyX10_ok 0 (by decide)) rfl rfl (Nat.le_of_ble_eq_true rfl) dX10_size_2 (fun H locs hP hD hS => ?_)
  have hP : va_P g.1 vwCl (zm_ws g h ad (zm_s M 0 0)) H := hP
  have hD : va_D A (zm_ws g h ad (zm_s M 0 0)) := hD
  refine lv_aload_n hx hb dX10_size_5 rfl (lv_at hl 0 rfl) ?_
  refine va_get (ci := 9) (v := .int (M.1 2)) hx hb hts iX10 hown hK hP 0 rfl rfl 2 (by decide) (hts _ w_813) (fun _ h9 => h9) rfl dX10_size_6 ?_
  exact zm_riw hQ hx hb hr hlocks hK hP hD hS rfl (by first | rfl | simp [zm_0, zq_upd]) (by first | rfl | simp [zm_0, zq_upd]) dX10_size_9
set_option maxHeartbeats 4000000 in
set_option maxRecDepth 100000 in
theorem kX10_count (l : Launch) (g : za_G) (E : za_E) (h : Nat) (ad : Nat → Nat) (M : zm_M)  : za_Ci l g E yX10_count cX10_count 1 ((some .int)) 0 0 0 [.ref h] (zm_ws g h ad M) (fun r (u : zm_M) => r = M.1 3 ∧ u = zm_0 M) (fun u => zm_ws g h ad u) := by
  refine za_begin (by decide) (Nat.le_of_ble_eq_true rfl) RX10 rfl ?_
  intro p e s m args below meth co A ls Q H locs C hQ hr hlocks hnm hS hP hD hl
  obtain ⟨hx, hb, hml, hown, hts, hK, hA, hE⟩ := id C
  have hl : lv_has ls 1 [(0, .ref h)] := hl
  refine lv_aload_n hx hb dX10_count_0 rfl (lv_at hl 0 rfl) ?_
  refine lv_iconst (v := 0) hx hb dX10_count_1 (by decide) ?_
  refine va_put (ci := 9) (v := .int 0) hx hb hts iX10 tyX10 tyX10_ok nmX10 hown hK hP hD hS 0 rfl rfl 0 (by decide) (hts _ w_811) (fun _ h9 => h9) rfl (tyX10_ok 0 (by decide)) rfl rfl (Nat.le_of_ble_eq_true rfl) dX10_count_2 (fun H locs hP hD hS => ?_)
  have hP : va_P g.1 vwCl (zm_ws g h ad (zm_s M 0 0)) H := hP
  have hD : va_D A (zm_ws g h ad (zm_s M 0 0)) := hD
  refine lv_aload_n hx hb dX10_count_5 rfl (lv_at hl 0 rfl) ?_
  refine va_get (ci := 9) (v := .int (M.1 3)) hx hb hts iX10 hown hK hP 0 rfl rfl 3 (by decide) (hts _ w_814) (fun _ h9 => h9) rfl dX10_count_6 ?_
  exact zm_riw hQ hx hb hr hlocks hK hP hD hS rfl (by first | rfl | simp [zm_0, zq_upd]) (by first | rfl | simp [zm_0, zq_upd]) dX10_count_9
set_option maxHeartbeats 4000000 in
set_option maxRecDepth 100000 in
theorem kX10_names (l : Launch) (g : za_G) (E : za_E) (h : Nat) (ad : Nat → Nat) (M : zm_M)  : za_Ci l g E yX10_names cX10_names 1 ((some .int)) 0 0 0 [.ref h] (zm_ws g h ad M) (fun r (u : zm_M) => r = M.1 17 ∧ u = zm_0 M) (fun u => zm_ws g h ad u) := by
  refine za_begin (by decide) (Nat.le_of_ble_eq_true rfl) RX10 rfl ?_
  intro p e s m args below meth co A ls Q H locs C hQ hr hlocks hnm hS hP hD hl
  obtain ⟨hx, hb, hml, hown, hts, hK, hA, hE⟩ := id C
  have hl : lv_has ls 1 [(0, .ref h)] := hl
  refine lv_aload_n hx hb dX10_names_0 rfl (lv_at hl 0 rfl) ?_
  refine lv_iconst (v := 0) hx hb dX10_names_1 (by decide) ?_
  refine va_put (ci := 9) (v := .int 0) hx hb hts iX10 tyX10 tyX10_ok nmX10 hown hK hP hD hS 0 rfl rfl 0 (by decide) (hts _ w_811) (fun _ h9 => h9) rfl (tyX10_ok 0 (by decide)) rfl rfl (Nat.le_of_ble_eq_true rfl) dX10_names_2 (fun H locs hP hD hS => ?_)
  have hP : va_P g.1 vwCl (zm_ws g h ad (zm_s M 0 0)) H := hP
  have hD : va_D A (zm_ws g h ad (zm_s M 0 0)) := hD
  refine lv_aload_n hx hb dX10_names_5 rfl (lv_at hl 0 rfl) ?_
  refine va_get (ci := 9) (v := .int (M.1 17)) hx hb hts iX10 hown hK hP 0 rfl rfl 17 (by decide) (hts _ w_828) (fun _ h9 => h9) rfl dX10_names_6 ?_
  exact zm_riw hQ hx hb hr hlocks hK hP hD hS rfl (by first | rfl | simp [zm_0, zq_upd]) (by first | rfl | simp [zm_0, zq_upd]) dX10_names_9
set_option maxHeartbeats 4000000 in
set_option maxRecDepth 100000 in
theorem kX10_end (l : Launch) (g : za_G) (E : za_E) (h : Nat) (ad : Nat → Nat) (M : zm_M) (n : Int32) : za_Ci l g E yX10_end cX10_end 2 ((some .boolean)) 0 0 0 [.ref h, .int n] (zm_ws g h ad M) (fun r (u : zm_M) => r = zr_end M n ∧ u = zm_end M n) (fun u => zm_ws g h ad u) := by
  refine za_begin (by decide) (Nat.le_of_ble_eq_true rfl) RX10 rfl ?_
  intro p e s m args below meth co A ls Q H locs C hQ hr hlocks hnm hS hP hD hl
  obtain ⟨hx, hb, hml, hown, hts, hK, hA, hE⟩ := id C
  have hl : lv_has ls 2 [(0, .ref h), (1, .int n)] := hl
  refine lv_aload_n hx hb dX10_end_0 rfl (lv_at hl 0 rfl) ?_
  refine lv_iconst (v := 0) hx hb dX10_end_1 (by decide) ?_
  refine va_put (ci := 9) (v := .int 0) hx hb hts iX10 tyX10 tyX10_ok nmX10 hown hK hP hD hS 0 rfl rfl 0 (by decide) (hts _ w_811) (fun _ h9 => h9) rfl (tyX10_ok 0 (by decide)) rfl rfl (Nat.le_of_ble_eq_true rfl) dX10_end_2 (fun H locs hP hD hS => ?_)
  have hP : va_P g.1 vwCl (zm_ws g h ad (zm_s M 0 0)) H := hP
  have hD : va_D A (zm_ws g h ad (zm_s M 0 0)) := hD
  refine lv_iload_n hx hb dX10_end_5 rfl (lv_at hl 1 rfl) ?_
  refine lv_if_lt (tgt := 17) hx hb dX10_end_6 (by decide) (fun c_6 => ?_) (fun c_6 => ?_)
  · refine lv_iconst (v := 0) hx hb dX10_end_17 (by decide) ?_
    exact zm_riw hQ hx hb hr hlocks hK hP hD hS rfl (by simp [zm_0, zr_end, zm_end, zq_upd, c_6]) (by simp [zm_0, zr_end, zm_end, zq_upd, c_6]) dX10_end_18
  · refine lv_iload_n hx hb dX10_end_9 rfl (lv_at hl 1 rfl) ?_
    refine lv_aload_n hx hb dX10_end_10 rfl (lv_at hl 0 rfl) ?_
    refine va_get (ci := 9) (v := .int (M.1 2)) hx hb hts iX10 hown hK hP 0 rfl rfl 2 (by decide) (hts _ w_813) (fun _ h9 => h9) rfl dX10_end_11 ?_
    refine za_icmp_le (tgt := 19) hx hb dX10_end_14 (by decide) (fun c_14 => ?_) (fun c_14 => ?_)
    · refine lv_aload_n hx hb dX10_end_19 rfl (lv_at hl 0 rfl) ?_
      refine lv_iload_n hx hb dX10_end_20 rfl (lv_at hl 1 rfl) ?_
      refine va_put (ci := 9) (v := .int n) hx hb hts iX10 tyX10 tyX10_ok nmX10 hown hK hP hD hS 0 rfl rfl 2 (by decide) (hts _ w_813) (fun _ h9 => h9) rfl (tyX10_ok 2 (by decide)) rfl rfl (Nat.le_of_ble_eq_true rfl) dX10_end_21 (fun H locs hP hD hS => ?_)
      have hP : va_P g.1 vwCl (zm_ws g h ad (zm_s (zm_s M 0 0) 2 n)) H := hP
      have hD : va_D A (zm_ws g h ad (zm_s (zm_s M 0 0) 2 n)) := hD
      refine lv_iconst (v := 1) hx hb dX10_end_24 (by decide) ?_
      exact zm_riw hQ hx hb hr hlocks hK hP hD hS rfl (by simp [zm_0, zr_end, zm_end, zq_upd, c_6, c_14]) (by simp [zm_0, zr_end, zm_end, zq_upd, c_6, c_14]) dX10_end_25
    · refine lv_iconst (v := 0) hx hb dX10_end_17 (by decide) ?_
      exact zm_riw hQ hx hb hr hlocks hK hP hD hS rfl (by simp [zm_0, zr_end, zm_end, zq_upd, c_6, c_14]) (by simp [zm_0, zr_end, zm_end, zq_upd, c_6, c_14]) dX10_end_18
set_option maxHeartbeats 4000000 in
set_option maxRecDepth 100000 in
theorem kX10_firstOf (l : Launch) (g : za_G) (E : za_E) (h : Nat) (ad : Nat → Nat) (M : zm_M) (n : Int32) (hi : ¬ n < 0 → n < M.1 17 → vp_in n 16384) : za_Ci l g E yX10_firstOf cX10_firstOf 2 ((some .int)) 0 0 0 [.ref h, .int n] (zm_ws g h ad M) (fun r (u : zm_M) => r = zr_firstOf M n ∧ u = zm_0 M) (fun u => zm_ws g h ad u) := by
  refine za_begin (by decide) (Nat.le_of_ble_eq_true rfl) RX10 rfl ?_
  intro p e s m args below meth co A ls Q H locs C hQ hr hlocks hnm hS hP hD hl
  obtain ⟨hx, hb, hml, hown, hts, hK, hA, hE⟩ := id C
  have hl : lv_has ls 2 [(0, .ref h), (1, .int n)] := hl
  refine lv_aload_n hx hb dX10_firstOf_0 rfl (lv_at hl 0 rfl) ?_
  refine lv_iconst (v := 0) hx hb dX10_firstOf_1 (by decide) ?_
  refine va_put (ci := 9) (v := .int 0) hx hb hts iX10 tyX10 tyX10_ok nmX10 hown hK hP hD hS 0 rfl rfl 0 (by decide) (hts _ w_811) (fun _ h9 => h9) rfl (tyX10_ok 0 (by decide)) rfl rfl (Nat.le_of_ble_eq_true rfl) dX10_firstOf_2 (fun H locs hP hD hS => ?_)
  have hP : va_P g.1 vwCl (zm_ws g h ad (zm_s M 0 0)) H := hP
  have hD : va_D A (zm_ws g h ad (zm_s M 0 0)) := hD
  refine lv_iload_n hx hb dX10_firstOf_5 rfl (lv_at hl 1 rfl) ?_
  refine lv_if_lt (tgt := 26) hx hb dX10_firstOf_6 (by decide) (fun c_6 => ?_) (fun c_6 => ?_)
  · refine lv_iconst (v := (-1)) hx hb dX10_firstOf_26 (by decide) ?_
    exact zm_riw hQ hx hb hr hlocks hK hP hD hS rfl (by simp [zm_0, zr_firstOf, zq_upd, c_6]) (by simp [zm_0, zr_firstOf, zq_upd, c_6]) dX10_firstOf_27
  · refine lv_iload_n hx hb dX10_firstOf_9 rfl (lv_at hl 1 rfl) ?_
    refine lv_aload_n hx hb dX10_firstOf_10 rfl (lv_at hl 0 rfl) ?_
    refine va_get (ci := 9) (v := .int (M.1 17)) hx hb hts iX10 hown hK hP 0 rfl rfl 17 (by decide) (hts _ w_828) (fun _ h9 => h9) rfl dX10_firstOf_11 ?_
    refine za_icmp_ge (tgt := 26) hx hb dX10_firstOf_14 (by decide) (fun c_14 => ?_) (fun c_14 => ?_)
    · refine lv_iconst (v := (-1)) hx hb dX10_firstOf_26 (by decide) ?_
      exact zm_riw hQ hx hb hr hlocks hK hP hD hS rfl (by simp [zm_0, zr_firstOf, zq_upd, c_6, c_14]) (by simp [zm_0, zr_firstOf, zq_upd, c_6, c_14]) dX10_firstOf_27
    · refine lv_aload_n hx hb dX10_firstOf_17 rfl (lv_at hl 0 rfl) ?_
      refine va_get (ci := 9) (v := .ref (ad 18)) hx hb hts iX10 hown hK hP 0 rfl rfl 18 (by decide) (hts _ w_829) (fun _ h9 => h9) rfl dX10_firstOf_18 ?_
      refine lv_iload_n hx hb dX10_firstOf_21 rfl (lv_at hl 1 rfl) ?_
      refine va_iald (f := M.2.1 18) hx hb hK hP 14 1 rfl rfl (hi c_6 c_14) dX10_firstOf_22 ?_
      refine lv_goto (tgt := 27) hx hb dX10_firstOf_23 (by decide) ?_
      exact zm_riw hQ hx hb hr hlocks hK hP hD hS rfl (by simp [zm_0, zr_firstOf, zq_upd, c_6, c_14]) (by simp [zm_0, zr_firstOf, zq_upd, c_6, c_14]) dX10_firstOf_27
set_option maxHeartbeats 4000000 in
set_option maxRecDepth 100000 in
theorem kX10_token_ (l : Launch) (g : za_G) (E : za_E) (h : Nat) (ad : Nat → Nat) (M : zm_M) (k w : Int32) (hT : zm_T M) : za_Ci l g E yX10_token_ cX10_token_ 3 ((some .int)) 1 0 0 [.ref h, .int k, .int w] (zm_ws g h ad M) (fun r (u : zm_M) => r = zr_tok M k w ∧ u = zm_tok M k w) (fun u => zm_ws g h ad u) := by
  refine za_begin (by decide) (Nat.le_of_ble_eq_true rfl) RX10 rfl ?_
  intro p e s m args below meth co A ls Q H locs C hQ hr hlocks hnm hS hP hD hl
  obtain ⟨hx, hb, hml, hown, hts, hK, hA, hE⟩ := id C
  have hl : lv_has ls 3 [(0, .ref h), (1, .int k), (2, .int w)] := hl
  refine lv_aload_n hx hb dX10_token__0 rfl (lv_at hl 0 rfl) ?_
  refine lv_iconst (v := 0) hx hb dX10_token__1 (by decide) ?_
  refine va_put (ci := 9) (v := .int 0) hx hb hts iX10 tyX10 tyX10_ok nmX10 hown hK hP hD hS 0 rfl rfl 0 (by decide) (hts _ w_811) (fun _ h9 => h9) rfl (tyX10_ok 0 (by decide)) rfl rfl (Nat.le_of_ble_eq_true rfl) dX10_token__2 (fun H locs hP hD hS => ?_)
  have hP : va_P g.1 vwCl (zm_ws g h ad (zm_s M 0 0)) H := hP
  have hD : va_D A (zm_ws g h ad (zm_s M 0 0)) := hD
  refine lv_iload_n hx hb dX10_token__5 rfl (lv_at hl 1 rfl) ?_
  refine lv_if_lt (tgt := 27) hx hb dX10_token__6 (by decide) (fun c_6 => ?_) (fun c_6 => ?_)
  · refine lv_aload_n hx hb dX10_token__27 rfl (lv_at hl 0 rfl) ?_
    refine za_ci (wc := zm_ws g h ad (zm_s M 0 0)) (wr := []) C hP hD hS [0, 1, 2, 3, 4, 5, 6, 7, 8, 9, 10, 11, 12, 13, 14, 15, 16, 17] [] rfl rfl (by decide) (by decide) (za_runV C hP hD hS [0, 1, 2, 3, 4, 5, 6, 7, 8, 9, 10, 11, 12, 13, 14, 15, 16, 17] rfl (by decide) rfl (kX10_fail l g E h ad (zm_s M 0 0)  ) w_1114 mX10_fail 0 rfl rfl rfl rfl hl.1 rfl (Nat.le_of_ble_eq_true rfl) dX10_token__28 ⟨by decide, by decide⟩ ⟨by decide, by decide⟩) (fun r1 M1 H locs hM1 hP hD hS => ?_)
    obtain ⟨hr1, hM1⟩ := hM1
    have hP : va_P g.1 vwCl (zm_ws g h ad M1) H := hP
    have hD : va_D A (zm_ws g h ad M1) := hD
    subst hM1
    subst hr1
    exact zm_riw hQ hx hb hr hlocks hK hP hD hS rfl (by simp [zm_0, zr_tok, zm_tok, zq_upd, c_6]) (by simp [zm_0, zr_tok, zm_tok, zq_upd, c_6]) dX10_token__31
  · refine lv_iload_n hx hb dX10_token__9 rfl (lv_at hl 1 rfl) ?_
    refine lv_aload_n hx hb dX10_token__10 rfl (lv_at hl 0 rfl) ?_
    refine va_get (ci := 9) (v := .int (M.1 3)) hx hb hts iX10 hown hK hP 0 rfl rfl 3 (by decide) (hts _ w_814) (fun _ h9 => h9) rfl dX10_token__11 ?_
    refine za_icmp_ge (tgt := 27) hx hb dX10_token__14 (by decide) (fun c_14 => ?_) (fun c_14 => ?_)
    · refine lv_aload_n hx hb dX10_token__27 rfl (lv_at hl 0 rfl) ?_
      refine za_ci (wc := zm_ws g h ad (zm_s M 0 0)) (wr := []) C hP hD hS [0, 1, 2, 3, 4, 5, 6, 7, 8, 9, 10, 11, 12, 13, 14, 15, 16, 17] [] rfl rfl (by decide) (by decide) (za_runV C hP hD hS [0, 1, 2, 3, 4, 5, 6, 7, 8, 9, 10, 11, 12, 13, 14, 15, 16, 17] rfl (by decide) rfl (kX10_fail l g E h ad (zm_s M 0 0)  ) w_1114 mX10_fail 0 rfl rfl rfl rfl hl.1 rfl (Nat.le_of_ble_eq_true rfl) dX10_token__28 ⟨by decide, by decide⟩ ⟨by decide, by decide⟩) (fun r2 M2 H locs hM2 hP hD hS => ?_)
      obtain ⟨hr2, hM2⟩ := hM2
      have hP : va_P g.1 vwCl (zm_ws g h ad M2) H := hP
      have hD : va_D A (zm_ws g h ad M2) := hD
      subst hM2
      subst hr2
      exact zm_riw hQ hx hb hr hlocks hK hP hD hS rfl (by simp [zm_0, zr_tok, zm_tok, zq_upd, c_6, c_14]) (by simp [zm_0, zr_tok, zm_tok, zq_upd, c_6, c_14]) dX10_token__31
    · refine lv_iload_n hx hb dX10_token__17 rfl (lv_at hl 2 rfl) ?_
      refine lv_if_lt (tgt := 27) hx hb dX10_token__18 (by decide) (fun c_18 => ?_) (fun c_18 => ?_)
      · refine lv_aload_n hx hb dX10_token__27 rfl (lv_at hl 0 rfl) ?_
        refine za_ci (wc := zm_ws g h ad (zm_s M 0 0)) (wr := []) C hP hD hS [0, 1, 2, 3, 4, 5, 6, 7, 8, 9, 10, 11, 12, 13, 14, 15, 16, 17] [] rfl rfl (by decide) (by decide) (za_runV C hP hD hS [0, 1, 2, 3, 4, 5, 6, 7, 8, 9, 10, 11, 12, 13, 14, 15, 16, 17] rfl (by decide) rfl (kX10_fail l g E h ad (zm_s M 0 0)  ) w_1114 mX10_fail 0 rfl rfl rfl rfl hl.1 rfl (Nat.le_of_ble_eq_true rfl) dX10_token__28 ⟨by decide, by decide⟩ ⟨by decide, by decide⟩) (fun r3 M3 H locs hM3 hP hD hS => ?_)
        obtain ⟨hr3, hM3⟩ := hM3
        have hP : va_P g.1 vwCl (zm_ws g h ad M3) H := hP
        have hD : va_D A (zm_ws g h ad M3) := hD
        subst hM3
        subst hr3
        exact zm_riw hQ hx hb hr hlocks hK hP hD hS rfl (by simp [zm_0, zr_tok, zm_tok, zq_upd, c_6, c_14, c_18]) (by simp [zm_0, zr_tok, zm_tok, zq_upd, c_6, c_14, c_18]) dX10_token__31
      · refine lv_iload_n hx hb dX10_token__21 rfl (lv_at hl 2 rfl) ?_
        refine lv_bipush (v := 8) hx hb dX10_token__22 (by decide) ?_
        refine za_icmp_le (tgt := 32) hx hb dX10_token__24 (by decide) (fun c_24 => ?_) (fun c_24 => ?_)
        · refine lv_iload_n hx hb dX10_token__32 rfl (lv_at hl 2 rfl) ?_
          refine lv_iconst (v := 4) hx hb dX10_token__33 (by decide) ?_
          refine za_icmp_ge (tgt := 85) hx hb dX10_token__34 (by decide) (fun c_34 => ?_) (fun c_34 => ?_)
          · refine lv_iload_n hx hb dX10_token__85 rfl (lv_at hl 2 rfl) ?_
            refine lv_bipush (v := 7) hx hb dX10_token__86 (by decide) ?_
            refine za_icmp_ge (tgt := 134) hx hb dX10_token__88 (by decide) (fun c_88 => ?_) (fun c_88 => ?_)
            · refine lv_iload_n hx hb dX10_token__134 rfl (lv_at hl 2 rfl) ?_
              refine lv_bipush (v := 7) hx hb dX10_token__135 (by decide) ?_
              refine lv_icmp_ne (tgt := 149) hx hb dX10_token__137 (by decide) (fun c_137 => ?_) (fun c_137 => ?_)
              · refine lv_aload_n hx hb dX10_token__149 rfl (lv_at hl 0 rfl) ?_
                refine va_get (ci := 9) (v := .ref (ad 13)) hx hb hts iX10 hown hK hP 0 rfl rfl 13 (by decide) (hts _ w_824) (fun _ h9 => h9) rfl dX10_token__150 ?_
                refine lv_iload_n hx hb dX10_token__153 rfl (lv_at hl 1 rfl) ?_
                refine va_iald (f := M.2.1 13) hx hb hK hP 11 1 rfl rfl (zq_in hT c_6 c_14) dX10_token__154 ?_
                exact zm_riw hQ hx hb hr hlocks hK hP hD hS rfl (by simp [zm_0, zr_tok, zm_tok, zq_upd, c_6, c_14, c_18, c_24, c_34, c_88, c_137]) (by simp [zm_0, zr_tok, zm_tok, zq_upd, c_6, c_14, c_18, c_24, c_34, c_88, c_137]) dX10_token__155
              · refine lv_aload_n hx hb dX10_token__140 rfl (lv_at hl 0 rfl) ?_
                refine va_get (ci := 9) (v := .ref (ad 11)) hx hb hts iX10 hown hK hP 0 rfl rfl 11 (by decide) (hts _ w_822) (fun _ h9 => h9) rfl dX10_token__141 ?_
                refine lv_iload_n hx hb dX10_token__144 rfl (lv_at hl 1 rfl) ?_
                refine va_iald (f := M.2.1 11) hx hb hK hP 9 1 rfl rfl (zq_in hT c_6 c_14) dX10_token__145 ?_
                refine lv_goto (tgt := 155) hx hb dX10_token__146 (by decide) ?_
                exact zm_riw hQ hx hb hr hlocks hK hP hD hS rfl (by simp [zm_0, zr_tok, zm_tok, zq_upd, c_6, c_14, c_18, c_24, c_34, c_88, eq_true c_137]) (by simp [zm_0, zr_tok, zm_tok, zq_upd, c_6, c_14, c_18, c_24, c_34, c_88, eq_true c_137]) dX10_token__155
            · refine lv_iload_n hx hb dX10_token__91 rfl (lv_at hl 2 rfl) ?_
              refine lv_iconst (v := 4) hx hb dX10_token__92 (by decide) ?_
              refine lv_icmp_ne (tgt := 105) hx hb dX10_token__93 (by decide) (fun c_93 => ?_) (fun c_93 => ?_)
              · refine lv_iload_n hx hb dX10_token__105 rfl (lv_at hl 2 rfl) ?_
                refine lv_iconst (v := 5) hx hb dX10_token__106 (by decide) ?_
                refine lv_icmp_ne (tgt := 127) hx hb dX10_token__107 (by decide) (fun c_107 => ?_) (fun c_107 => ?_)
                · refine lv_aload_n hx hb dX10_token__127 rfl (lv_at hl 0 rfl) ?_
                  refine va_get (ci := 9) (v := .ref (ad 10)) hx hb hts iX10 hown hK hP 0 rfl rfl 10 (by decide) (hts _ w_821) (fun _ h9 => h9) rfl dX10_token__128 ?_
                  refine lv_iload_n hx hb dX10_token__131 rfl (lv_at hl 1 rfl) ?_
                  refine va_iald (f := M.2.1 10) hx hb hK hP 8 1 rfl rfl (zq_in hT c_6 c_14) dX10_token__132 ?_
                  exact zm_riw hQ hx hb hr hlocks hK hP hD hS rfl (by simp [zm_0, zr_tok, zm_tok, zq_upd, c_6, c_14, c_18, c_24, c_34, c_88, c_93, c_107]) (by simp [zm_0, zr_tok, zm_tok, zq_upd, c_6, c_14, c_18, c_24, c_34, c_88, c_93, c_107]) dX10_token__133
                · refine lv_aload_n hx hb dX10_token__110 rfl (lv_at hl 0 rfl) ?_
                  refine va_get (ci := 9) (v := .ref (ad 9)) hx hb hts iX10 hown hK hP 0 rfl rfl 9 (by decide) (hts _ w_820) (fun _ h9 => h9) rfl dX10_token__111 ?_
                  refine lv_iload_n hx hb dX10_token__114 rfl (lv_at hl 1 rfl) ?_
                  refine va_zald (f := M.2.1 9) hx hb hK hP 7 3 rfl rfl (zq_in hT c_6 c_14) dX10_token__115 ?_
                  refine lv_if_eq (tgt := 123) hx hb dX10_token__116 (by decide) (fun c_116 => ?_) (fun c_116 => ?_)
                  · refine lv_iconst (v := 0) hx hb dX10_token__123 (by decide) ?_
                    refine lv_goto (tgt := 133) hx hb dX10_token__124 (by decide) ?_
                    exact zm_riw hQ hx hb hr hlocks hK hP hD hS rfl (by simp [zm_0, zr_tok, zm_tok, zq_upd, c_6, c_14, c_18, c_24, c_34, c_88, c_93, eq_true c_107, eq_true c_116]) (by simp [zm_0, zr_tok, zm_tok, zq_upd, c_6, c_14, c_18, c_24, c_34, c_88, c_93, eq_true c_107, eq_true c_116]) dX10_token__133
                  · refine lv_iconst (v := 1) hx hb dX10_token__119 (by decide) ?_
                    refine lv_goto (tgt := 133) hx hb dX10_token__120 (by decide) ?_
                    exact zm_riw hQ hx hb hr hlocks hK hP hD hS rfl (by simp [zm_0, zr_tok, zm_tok, zq_upd, c_6, c_14, c_18, c_24, c_34, c_88, c_93, eq_true c_107, c_116]) (by simp [zm_0, zr_tok, zm_tok, zq_upd, c_6, c_14, c_18, c_24, c_34, c_88, c_93, eq_true c_107, c_116]) dX10_token__133
              · refine lv_aload_n hx hb dX10_token__96 rfl (lv_at hl 0 rfl) ?_
                refine va_get (ci := 9) (v := .ref (ad 8)) hx hb hts iX10 hown hK hP 0 rfl rfl 8 (by decide) (hts _ w_819) (fun _ h9 => h9) rfl dX10_token__97 ?_
                refine lv_iload_n hx hb dX10_token__100 rfl (lv_at hl 1 rfl) ?_
                refine va_iald (f := M.2.1 8) hx hb hK hP 6 1 rfl rfl (zq_in hT c_6 c_14) dX10_token__101 ?_
                refine lv_goto (tgt := 133) hx hb dX10_token__102 (by decide) ?_
                exact zm_riw hQ hx hb hr hlocks hK hP hD hS rfl (by simp [zm_0, zr_tok, zm_tok, zq_upd, c_6, c_14, c_18, c_24, c_34, c_88, eq_true c_93]) (by simp [zm_0, zr_tok, zm_tok, zq_upd, c_6, c_14, c_18, c_24, c_34, c_88, eq_true c_93]) dX10_token__133
          · refine lv_iload_n hx hb dX10_token__37 rfl (lv_at hl 2 rfl) ?_
            refine lv_if_ne (tgt := 50) hx hb dX10_token__38 (by decide) (fun c_38 => ?_) (fun c_38 => ?_)
            · refine lv_iload_n hx hb dX10_token__50 rfl (lv_at hl 2 rfl) ?_
              refine lv_iconst (v := 1) hx hb dX10_token__51 (by decide) ?_
              refine lv_icmp_ne (tgt := 64) hx hb dX10_token__52 (by decide) (fun c_52 => ?_) (fun c_52 => ?_)
              · refine lv_iload_n hx hb dX10_token__64 rfl (lv_at hl 2 rfl) ?_
                refine lv_iconst (v := 2) hx hb dX10_token__65 (by decide) ?_
                refine lv_icmp_ne (tgt := 78) hx hb dX10_token__66 (by decide) (fun c_66 => ?_) (fun c_66 => ?_)
                · refine lv_aload_n hx hb dX10_token__78 rfl (lv_at hl 0 rfl) ?_
                  refine va_get (ci := 9) (v := .ref (ad 7)) hx hb hts iX10 hown hK hP 0 rfl rfl 7 (by decide) (hts _ w_818) (fun _ h9 => h9) rfl dX10_token__79 ?_
                  refine lv_iload_n hx hb dX10_token__82 rfl (lv_at hl 1 rfl) ?_
                  refine va_iald (f := M.2.1 7) hx hb hK hP 5 1 rfl rfl (zq_in hT c_6 c_14) dX10_token__83 ?_
                  exact zm_riw hQ hx hb hr hlocks hK hP hD hS rfl (by simp [zm_0, zr_tok, zm_tok, zq_upd, c_6, c_14, c_18, c_24, c_34, c_38, c_52, c_66]) (by simp [zm_0, zr_tok, zm_tok, zq_upd, c_6, c_14, c_18, c_24, c_34, c_38, c_52, c_66]) dX10_token__84
                · refine lv_aload_n hx hb dX10_token__69 rfl (lv_at hl 0 rfl) ?_
                  refine va_get (ci := 9) (v := .ref (ad 6)) hx hb hts iX10 hown hK hP 0 rfl rfl 6 (by decide) (hts _ w_817) (fun _ h9 => h9) rfl dX10_token__70 ?_
                  refine lv_iload_n hx hb dX10_token__73 rfl (lv_at hl 1 rfl) ?_
                  refine va_iald (f := M.2.1 6) hx hb hK hP 4 1 rfl rfl (zq_in hT c_6 c_14) dX10_token__74 ?_
                  refine lv_goto (tgt := 84) hx hb dX10_token__75 (by decide) ?_
                  exact zm_riw hQ hx hb hr hlocks hK hP hD hS rfl (by simp [zm_0, zr_tok, zm_tok, zq_upd, c_6, c_14, c_18, c_24, c_34, c_38, c_52, eq_true c_66]) (by simp [zm_0, zr_tok, zm_tok, zq_upd, c_6, c_14, c_18, c_24, c_34, c_38, c_52, eq_true c_66]) dX10_token__84
              · refine lv_aload_n hx hb dX10_token__55 rfl (lv_at hl 0 rfl) ?_
                refine va_get (ci := 9) (v := .ref (ad 5)) hx hb hts iX10 hown hK hP 0 rfl rfl 5 (by decide) (hts _ w_816) (fun _ h9 => h9) rfl dX10_token__56 ?_
                refine lv_iload_n hx hb dX10_token__59 rfl (lv_at hl 1 rfl) ?_
                refine va_iald (f := M.2.1 5) hx hb hK hP 3 1 rfl rfl (zq_in hT c_6 c_14) dX10_token__60 ?_
                refine lv_goto (tgt := 84) hx hb dX10_token__61 (by decide) ?_
                exact zm_riw hQ hx hb hr hlocks hK hP hD hS rfl (by simp [zm_0, zr_tok, zm_tok, zq_upd, c_6, c_14, c_18, c_24, c_34, c_38, eq_true c_52]) (by simp [zm_0, zr_tok, zm_tok, zq_upd, c_6, c_14, c_18, c_24, c_34, c_38, eq_true c_52]) dX10_token__84
            · refine lv_aload_n hx hb dX10_token__41 rfl (lv_at hl 0 rfl) ?_
              refine va_get (ci := 9) (v := .ref (ad 4)) hx hb hts iX10 hown hK hP 0 rfl rfl 4 (by decide) (hts _ w_815) (fun _ h9 => h9) rfl dX10_token__42 ?_
              refine lv_iload_n hx hb dX10_token__45 rfl (lv_at hl 1 rfl) ?_
              refine va_iald (f := M.2.1 4) hx hb hK hP 2 1 rfl rfl (zq_in hT c_6 c_14) dX10_token__46 ?_
              refine lv_goto (tgt := 84) hx hb dX10_token__47 (by decide) ?_
              exact zm_riw hQ hx hb hr hlocks hK hP hD hS rfl (by simp [zm_0, zr_tok, zm_tok, zq_upd, c_6, c_14, c_18, c_24, c_34, eq_true c_38]) (by simp [zm_0, zr_tok, zm_tok, zq_upd, c_6, c_14, c_18, c_24, c_34, eq_true c_38]) dX10_token__84
        · refine lv_aload_n hx hb dX10_token__27 rfl (lv_at hl 0 rfl) ?_
          refine za_ci (wc := zm_ws g h ad (zm_s M 0 0)) (wr := []) C hP hD hS [0, 1, 2, 3, 4, 5, 6, 7, 8, 9, 10, 11, 12, 13, 14, 15, 16, 17] [] rfl rfl (by decide) (by decide) (za_runV C hP hD hS [0, 1, 2, 3, 4, 5, 6, 7, 8, 9, 10, 11, 12, 13, 14, 15, 16, 17] rfl (by decide) rfl (kX10_fail l g E h ad (zm_s M 0 0)  ) w_1114 mX10_fail 0 rfl rfl rfl rfl hl.1 rfl (Nat.le_of_ble_eq_true rfl) dX10_token__28 ⟨by decide, by decide⟩ ⟨by decide, by decide⟩) (fun r4 M4 H locs hM4 hP hD hS => ?_)
          obtain ⟨hr4, hM4⟩ := hM4
          have hP : va_P g.1 vwCl (zm_ws g h ad M4) H := hP
          have hD : va_D A (zm_ws g h ad M4) := hD
          subst hM4
          subst hr4
          exact zm_riw hQ hx hb hr hlocks hK hP hD hS rfl (by simp [zm_0, zr_tok, zm_tok, zq_upd, c_6, c_14, c_18, c_24]) (by simp [zm_0, zr_tok, zm_tok, zq_upd, c_6, c_14, c_18, c_24]) dX10_token__31
set_option maxHeartbeats 4000000 in
set_option maxRecDepth 100000 in
theorem kX10_byteOf (l : Launch) (g : za_G) (E : za_E) (h : Nat) (ad : Nat → Nat) (M : zm_M) (k i : Int32) (hT : zm_T M) (hi : ¬ k < 0 → k < M.1 3 → ¬ i < 0 → i < M.2.1 13 k.toNatClampNeg → vp_in (M.2.1 12 k.toNatClampNeg + i) 65536) : za_Ci l g E yX10_byteOf cX10_byteOf 3 ((some .int)) 1 0 0 [.ref h, .int k, .int i] (zm_ws g h ad M) (fun r (u : zm_M) => r = zr_byteOf M k i ∧ u = zm_byteOf M k i) (fun u => zm_ws g h ad u) := by
  refine za_begin (by decide) (Nat.le_of_ble_eq_true rfl) RX10 rfl ?_
  intro p e s m args below meth co A ls Q H locs C hQ hr hlocks hnm hS hP hD hl
  obtain ⟨hx, hb, hml, hown, hts, hK, hA, hE⟩ := id C
  have hl : lv_has ls 3 [(0, .ref h), (1, .int k), (2, .int i)] := hl
  refine lv_aload_n hx hb dX10_byteOf_0 rfl (lv_at hl 0 rfl) ?_
  refine lv_iconst (v := 0) hx hb dX10_byteOf_1 (by decide) ?_
  refine va_put (ci := 9) (v := .int 0) hx hb hts iX10 tyX10 tyX10_ok nmX10 hown hK hP hD hS 0 rfl rfl 0 (by decide) (hts _ w_811) (fun _ h9 => h9) rfl (tyX10_ok 0 (by decide)) rfl rfl (Nat.le_of_ble_eq_true rfl) dX10_byteOf_2 (fun H locs hP hD hS => ?_)
  have hP : va_P g.1 vwCl (zm_ws g h ad (zm_s M 0 0)) H := hP
  have hD : va_D A (zm_ws g h ad (zm_s M 0 0)) := hD
  refine lv_iload_n hx hb dX10_byteOf_5 rfl (lv_at hl 1 rfl) ?_
  refine lv_if_lt (tgt := 51) hx hb dX10_byteOf_6 (by decide) (fun c_6 => ?_) (fun c_6 => ?_)
  · refine lv_aload_n hx hb dX10_byteOf_51 rfl (lv_at hl 0 rfl) ?_
    refine za_ci (wc := zm_ws g h ad (zm_s M 0 0)) (wr := []) C hP hD hS [0, 1, 2, 3, 4, 5, 6, 7, 8, 9, 10, 11, 12, 13, 14, 15, 16, 17] [] rfl rfl (by decide) (by decide) (za_runV C hP hD hS [0, 1, 2, 3, 4, 5, 6, 7, 8, 9, 10, 11, 12, 13, 14, 15, 16, 17] rfl (by decide) rfl (kX10_fail l g E h ad (zm_s M 0 0)  ) w_1114 mX10_fail 0 rfl rfl rfl rfl hl.1 rfl (Nat.le_of_ble_eq_true rfl) dX10_byteOf_52 ⟨by decide, by decide⟩ ⟨by decide, by decide⟩) (fun r1 M1 H locs hM1 hP hD hS => ?_)
    obtain ⟨hr1, hM1⟩ := hM1
    have hP : va_P g.1 vwCl (zm_ws g h ad M1) H := hP
    have hD : va_D A (zm_ws g h ad M1) := hD
    subst hM1
    subst hr1
    exact zm_riw hQ hx hb hr hlocks hK hP hD hS rfl (by simp [zm_0, zr_byteOf, zm_byteOf, zq_upd, c_6]) (by simp [zm_0, zr_byteOf, zm_byteOf, zq_upd, c_6]) dX10_byteOf_55
  · refine lv_iload_n hx hb dX10_byteOf_9 rfl (lv_at hl 1 rfl) ?_
    refine lv_aload_n hx hb dX10_byteOf_10 rfl (lv_at hl 0 rfl) ?_
    refine va_get (ci := 9) (v := .int (M.1 3)) hx hb hts iX10 hown hK hP 0 rfl rfl 3 (by decide) (hts _ w_814) (fun _ h9 => h9) rfl dX10_byteOf_11 ?_
    refine za_icmp_ge (tgt := 51) hx hb dX10_byteOf_14 (by decide) (fun c_14 => ?_) (fun c_14 => ?_)
    · refine lv_aload_n hx hb dX10_byteOf_51 rfl (lv_at hl 0 rfl) ?_
      refine za_ci (wc := zm_ws g h ad (zm_s M 0 0)) (wr := []) C hP hD hS [0, 1, 2, 3, 4, 5, 6, 7, 8, 9, 10, 11, 12, 13, 14, 15, 16, 17] [] rfl rfl (by decide) (by decide) (za_runV C hP hD hS [0, 1, 2, 3, 4, 5, 6, 7, 8, 9, 10, 11, 12, 13, 14, 15, 16, 17] rfl (by decide) rfl (kX10_fail l g E h ad (zm_s M 0 0)  ) w_1114 mX10_fail 0 rfl rfl rfl rfl hl.1 rfl (Nat.le_of_ble_eq_true rfl) dX10_byteOf_52 ⟨by decide, by decide⟩ ⟨by decide, by decide⟩) (fun r2 M2 H locs hM2 hP hD hS => ?_)
      obtain ⟨hr2, hM2⟩ := hM2
      have hP : va_P g.1 vwCl (zm_ws g h ad M2) H := hP
      have hD : va_D A (zm_ws g h ad M2) := hD
      subst hM2
      subst hr2
      exact zm_riw hQ hx hb hr hlocks hK hP hD hS rfl (by simp [zm_0, zr_byteOf, zm_byteOf, zq_upd, c_6, c_14]) (by simp [zm_0, zr_byteOf, zm_byteOf, zq_upd, c_6, c_14]) dX10_byteOf_55
    · refine lv_iload_n hx hb dX10_byteOf_17 rfl (lv_at hl 2 rfl) ?_
      refine lv_if_lt (tgt := 51) hx hb dX10_byteOf_18 (by decide) (fun c_18 => ?_) (fun c_18 => ?_)
      · refine lv_aload_n hx hb dX10_byteOf_51 rfl (lv_at hl 0 rfl) ?_
        refine za_ci (wc := zm_ws g h ad (zm_s M 0 0)) (wr := []) C hP hD hS [0, 1, 2, 3, 4, 5, 6, 7, 8, 9, 10, 11, 12, 13, 14, 15, 16, 17] [] rfl rfl (by decide) (by decide) (za_runV C hP hD hS [0, 1, 2, 3, 4, 5, 6, 7, 8, 9, 10, 11, 12, 13, 14, 15, 16, 17] rfl (by decide) rfl (kX10_fail l g E h ad (zm_s M 0 0)  ) w_1114 mX10_fail 0 rfl rfl rfl rfl hl.1 rfl (Nat.le_of_ble_eq_true rfl) dX10_byteOf_52 ⟨by decide, by decide⟩ ⟨by decide, by decide⟩) (fun r3 M3 H locs hM3 hP hD hS => ?_)
        obtain ⟨hr3, hM3⟩ := hM3
        have hP : va_P g.1 vwCl (zm_ws g h ad M3) H := hP
        have hD : va_D A (zm_ws g h ad M3) := hD
        subst hM3
        subst hr3
        exact zm_riw hQ hx hb hr hlocks hK hP hD hS rfl (by simp [zm_0, zr_byteOf, zm_byteOf, zq_upd, c_6, c_14, c_18]) (by simp [zm_0, zr_byteOf, zm_byteOf, zq_upd, c_6, c_14, c_18]) dX10_byteOf_55
      · refine lv_iload_n hx hb dX10_byteOf_21 rfl (lv_at hl 2 rfl) ?_
        refine lv_aload_n hx hb dX10_byteOf_22 rfl (lv_at hl 0 rfl) ?_
        refine va_get (ci := 9) (v := .ref (ad 13)) hx hb hts iX10 hown hK hP 0 rfl rfl 13 (by decide) (hts _ w_824) (fun _ h9 => h9) rfl dX10_byteOf_23 ?_
        refine lv_iload_n hx hb dX10_byteOf_26 rfl (lv_at hl 1 rfl) ?_
        refine va_iald (f := M.2.1 13) hx hb hK hP 11 1 rfl rfl (zq_in hT c_6 c_14) dX10_byteOf_27 ?_
        refine za_icmp_ge (tgt := 51) hx hb dX10_byteOf_28 (by decide) (fun c_28 => ?_) (fun c_28 => ?_)
        · refine lv_aload_n hx hb dX10_byteOf_51 rfl (lv_at hl 0 rfl) ?_
          refine za_ci (wc := zm_ws g h ad (zm_s M 0 0)) (wr := []) C hP hD hS [0, 1, 2, 3, 4, 5, 6, 7, 8, 9, 10, 11, 12, 13, 14, 15, 16, 17] [] rfl rfl (by decide) (by decide) (za_runV C hP hD hS [0, 1, 2, 3, 4, 5, 6, 7, 8, 9, 10, 11, 12, 13, 14, 15, 16, 17] rfl (by decide) rfl (kX10_fail l g E h ad (zm_s M 0 0)  ) w_1114 mX10_fail 0 rfl rfl rfl rfl hl.1 rfl (Nat.le_of_ble_eq_true rfl) dX10_byteOf_52 ⟨by decide, by decide⟩ ⟨by decide, by decide⟩) (fun r4 M4 H locs hM4 hP hD hS => ?_)
          obtain ⟨hr4, hM4⟩ := hM4
          have hP : va_P g.1 vwCl (zm_ws g h ad M4) H := hP
          have hD : va_D A (zm_ws g h ad M4) := hD
          subst hM4
          subst hr4
          exact zm_riw hQ hx hb hr hlocks hK hP hD hS rfl (by simp [zm_0, zr_byteOf, zm_byteOf, zq_upd, c_6, c_14, c_18, c_28]) (by simp [zm_0, zr_byteOf, zm_byteOf, zq_upd, c_6, c_14, c_18, c_28]) dX10_byteOf_55
        · refine lv_aload_n hx hb dX10_byteOf_31 rfl (lv_at hl 0 rfl) ?_
          refine va_get (ci := 9) (v := .ref (ad 16)) hx hb hts iX10 hown hK hP 0 rfl rfl 16 (by decide) (hts _ w_827) (fun _ h9 => h9) rfl dX10_byteOf_32 ?_
          refine lv_aload_n hx hb dX10_byteOf_35 rfl (lv_at hl 0 rfl) ?_
          refine va_get (ci := 9) (v := .ref (ad 12)) hx hb hts iX10 hown hK hP 0 rfl rfl 12 (by decide) (hts _ w_823) (fun _ h9 => h9) rfl dX10_byteOf_36 ?_
          refine lv_iload_n hx hb dX10_byteOf_39 rfl (lv_at hl 1 rfl) ?_
          refine va_iald (f := M.2.1 12) hx hb hK hP 10 1 rfl rfl (zq_in hT c_6 c_14) dX10_byteOf_40 ?_
          refine lv_iload_n hx hb dX10_byteOf_41 rfl (lv_at hl 2 rfl) ?_
          refine lv_iadd hx hb dX10_byteOf_42 ?_
          refine va_bald (f := M.2.1 16) hx hb hK hP 13 0 rfl rfl (hi c_6 c_14 c_18 c_28) dX10_byteOf_43 ?_
          refine lv_sipush (v := 255) hx hb dX10_byteOf_44 (by decide) ?_
          refine lv_iand hx hb dX10_byteOf_47 ?_
          refine lv_goto (tgt := 55) hx hb dX10_byteOf_48 (by decide) ?_
          exact zm_riw hQ hx hb hr hlocks hK hP hD hS rfl (by simp [zm_0, zr_byteOf, zm_byteOf, zq_upd, c_6, c_14, c_18, c_28]) (by simp [zm_0, zr_byteOf, zm_byteOf, zq_upd, c_6, c_14, c_18, c_28]) dX10_byteOf_55
set_option maxHeartbeats 4000000 in
set_option maxRecDepth 100000 in
theorem kX10_number_ (l : Launch) (g : za_G) (E : za_E) (h : Nat) (ad : Nat → Nat) (M : zm_M) (k : Int32) (hT : zm_T M) : za_Cl l g E yX10_number_ cX10_number_ 2 1 0 0 [.ref h, .int k] (zm_ws g h ad M) (fun r (u : zm_M) => r = zr_num M k ∧ u = zm_num M k) (fun u => zm_ws g h ad u) := by
  refine za_begin (by decide) (Nat.le_of_ble_eq_true rfl) RX10 rfl ?_
  intro p e s m args below meth co A ls Q H locs C hQ hr hlocks hnm hS hP hD hl
  obtain ⟨hx, hb, hml, hown, hts, hK, hA, hE⟩ := id C
  have hl : lv_has ls 2 [(0, .ref h), (1, .int k)] := hl
  refine lv_aload_n hx hb dX10_number__0 rfl (lv_at hl 0 rfl) ?_
  refine lv_iconst (v := 0) hx hb dX10_number__1 (by decide) ?_
  refine va_put (ci := 9) (v := .int 0) hx hb hts iX10 tyX10 tyX10_ok nmX10 hown hK hP hD hS 0 rfl rfl 0 (by decide) (hts _ w_811) (fun _ h9 => h9) rfl (tyX10_ok 0 (by decide)) rfl rfl (Nat.le_of_ble_eq_true rfl) dX10_number__2 (fun H locs hP hD hS => ?_)
  have hP : va_P g.1 vwCl (zm_ws g h ad (zm_s M 0 0)) H := hP
  have hD : va_D A (zm_ws g h ad (zm_s M 0 0)) := hD
  refine lv_iload_n hx hb dX10_number__5 rfl (lv_at hl 1 rfl) ?_
  refine lv_if_lt (tgt := 46) hx hb dX10_number__6 (by decide) (fun c_6 => ?_) (fun c_6 => ?_)
  · refine lv_aload_n hx hb dX10_number__46 rfl (lv_at hl 0 rfl) ?_
    refine za_ci (wc := zm_ws g h ad (zm_s M 0 0)) (wr := []) C hP hD hS [0, 1, 2, 3, 4, 5, 6, 7, 8, 9, 10, 11, 12, 13, 14, 15, 16, 17] [] rfl rfl (by decide) (by decide) (za_runV C hP hD hS [0, 1, 2, 3, 4, 5, 6, 7, 8, 9, 10, 11, 12, 13, 14, 15, 16, 17] rfl (by decide) rfl (kX10_fail l g E h ad (zm_s M 0 0)  ) w_1114 mX10_fail 0 rfl rfl rfl rfl hl.1 rfl (Nat.le_of_ble_eq_true rfl) dX10_number__47 ⟨by decide, by decide⟩ ⟨by decide, by decide⟩) (fun r1 M1 H locs hM1 hP hD hS => ?_)
    obtain ⟨hr1, hM1⟩ := hM1
    have hP : va_P g.1 vwCl (zm_ws g h ad M1) H := hP
    have hD : va_D A (zm_ws g h ad M1) := hD
    refine lv_i2l (v := r1.toInt64) hx hb dX10_number__50 rfl ?_
    subst hM1
    subst hr1
    exact zm_rlw hQ hx hb hr hlocks hK hP hD hS (by simp [zm_0, zr_num, zm_num, zq_upd, c_6]) (by simp [zm_0, zr_num, zm_num, zq_upd, c_6]) dX10_number__51
  · refine lv_iload_n hx hb dX10_number__9 rfl (lv_at hl 1 rfl) ?_
    refine lv_aload_n hx hb dX10_number__10 rfl (lv_at hl 0 rfl) ?_
    refine va_get (ci := 9) (v := .int (M.1 3)) hx hb hts iX10 hown hK hP 0 rfl rfl 3 (by decide) (hts _ w_814) (fun _ h9 => h9) rfl dX10_number__11 ?_
    refine za_icmp_ge (tgt := 46) hx hb dX10_number__14 (by decide) (fun c_14 => ?_) (fun c_14 => ?_)
    · refine lv_aload_n hx hb dX10_number__46 rfl (lv_at hl 0 rfl) ?_
      refine za_ci (wc := zm_ws g h ad (zm_s M 0 0)) (wr := []) C hP hD hS [0, 1, 2, 3, 4, 5, 6, 7, 8, 9, 10, 11, 12, 13, 14, 15, 16, 17] [] rfl rfl (by decide) (by decide) (za_runV C hP hD hS [0, 1, 2, 3, 4, 5, 6, 7, 8, 9, 10, 11, 12, 13, 14, 15, 16, 17] rfl (by decide) rfl (kX10_fail l g E h ad (zm_s M 0 0)  ) w_1114 mX10_fail 0 rfl rfl rfl rfl hl.1 rfl (Nat.le_of_ble_eq_true rfl) dX10_number__47 ⟨by decide, by decide⟩ ⟨by decide, by decide⟩) (fun r2 M2 H locs hM2 hP hD hS => ?_)
      obtain ⟨hr2, hM2⟩ := hM2
      have hP : va_P g.1 vwCl (zm_ws g h ad M2) H := hP
      have hD : va_D A (zm_ws g h ad M2) := hD
      refine lv_i2l (v := r2.toInt64) hx hb dX10_number__50 rfl ?_
      subst hM2
      subst hr2
      exact zm_rlw hQ hx hb hr hlocks hK hP hD hS (by simp [zm_0, zr_num, zm_num, zq_upd, c_6, c_14]) (by simp [zm_0, zr_num, zm_num, zq_upd, c_6, c_14]) dX10_number__51
    · refine lv_aload_n hx hb dX10_number__17 rfl (lv_at hl 0 rfl) ?_
      refine va_get (ci := 9) (v := .ref (ad 4)) hx hb hts iX10 hown hK hP 0 rfl rfl 4 (by decide) (hts _ w_815) (fun _ h9 => h9) rfl dX10_number__18 ?_
      refine lv_iload_n hx hb dX10_number__21 rfl (lv_at hl 1 rfl) ?_
      refine va_iald (f := M.2.1 4) hx hb hK hP 2 1 rfl rfl (zq_in hT c_6 c_14) dX10_number__22 ?_
      refine lv_iconst (v := 2) hx hb dX10_number__23 (by decide) ?_
      refine lv_icmp_eq (tgt := 37) hx hb dX10_number__24 (by decide) (fun c_24 => ?_) (fun c_24 => ?_)
      · refine lv_aload_n hx hb dX10_number__37 rfl (lv_at hl 0 rfl) ?_
        refine va_get (ci := 9) (v := .ref (ad 14)) hx hb hts iX10 hown hK hP 0 rfl rfl 14 (by decide) (hts _ w_825) (fun _ h9 => h9) rfl dX10_number__38 ?_
        refine lv_iload_n hx hb dX10_number__41 rfl (lv_at hl 1 rfl) ?_
        refine va_lald (f := M.2.2) hx hb hK hP 12 2 rfl rfl (zq_in hT c_6 c_14) dX10_number__42 ?_
        refine lv_goto (tgt := 51) hx hb dX10_number__43 (by decide) ?_
        exact zm_rlw hQ hx hb hr hlocks hK hP hD hS (by simp [zm_0, zr_num, zm_num, zq_upd, c_6, c_14, eq_true c_24]) (by simp [zm_0, zr_num, zm_num, zq_upd, c_6, c_14, eq_true c_24]) dX10_number__51
      · refine lv_aload_n hx hb dX10_number__27 rfl (lv_at hl 0 rfl) ?_
        refine va_get (ci := 9) (v := .ref (ad 4)) hx hb hts iX10 hown hK hP 0 rfl rfl 4 (by decide) (hts _ w_815) (fun _ h9 => h9) rfl dX10_number__28 ?_
        refine lv_iload_n hx hb dX10_number__31 rfl (lv_at hl 1 rfl) ?_
        refine va_iald (f := M.2.1 4) hx hb hK hP 2 1 rfl rfl (zq_in hT c_6 c_14) dX10_number__32 ?_
        refine lv_iconst (v := 4) hx hb dX10_number__33 (by decide) ?_
        refine lv_icmp_ne (tgt := 46) hx hb dX10_number__34 (by decide) (fun c_34 => ?_) (fun c_34 => ?_)
        · refine lv_aload_n hx hb dX10_number__46 rfl (lv_at hl 0 rfl) ?_
          refine za_ci (wc := zm_ws g h ad (zm_s M 0 0)) (wr := []) C hP hD hS [0, 1, 2, 3, 4, 5, 6, 7, 8, 9, 10, 11, 12, 13, 14, 15, 16, 17] [] rfl rfl (by decide) (by decide) (za_runV C hP hD hS [0, 1, 2, 3, 4, 5, 6, 7, 8, 9, 10, 11, 12, 13, 14, 15, 16, 17] rfl (by decide) rfl (kX10_fail l g E h ad (zm_s M 0 0)  ) w_1114 mX10_fail 0 rfl rfl rfl rfl hl.1 rfl (Nat.le_of_ble_eq_true rfl) dX10_number__47 ⟨by decide, by decide⟩ ⟨by decide, by decide⟩) (fun r3 M3 H locs hM3 hP hD hS => ?_)
          obtain ⟨hr3, hM3⟩ := hM3
          have hP : va_P g.1 vwCl (zm_ws g h ad M3) H := hP
          have hD : va_D A (zm_ws g h ad M3) := hD
          refine lv_i2l (v := r3.toInt64) hx hb dX10_number__50 rfl ?_
          subst hM3
          subst hr3
          exact zm_rlw hQ hx hb hr hlocks hK hP hD hS (by simp [zm_0, zr_num, zm_num, zq_upd, c_6, c_14, c_24, c_34]) (by simp [zm_0, zr_num, zm_num, zq_upd, c_6, c_14, c_24, c_34]) dX10_number__51
        · refine lv_aload_n hx hb dX10_number__37 rfl (lv_at hl 0 rfl) ?_
          refine va_get (ci := 9) (v := .ref (ad 14)) hx hb hts iX10 hown hK hP 0 rfl rfl 14 (by decide) (hts _ w_825) (fun _ h9 => h9) rfl dX10_number__38 ?_
          refine lv_iload_n hx hb dX10_number__41 rfl (lv_at hl 1 rfl) ?_
          refine va_lald (f := M.2.2) hx hb hK hP 12 2 rfl rfl (zq_in hT c_6 c_14) dX10_number__42 ?_
          refine lv_goto (tgt := 51) hx hb dX10_number__43 (by decide) ?_
          exact zm_rlw hQ hx hb hr hlocks hK hP hD hS (by simp [zm_0, zr_num, zm_num, zq_upd, c_6, c_14, c_24, eq_true c_34]) (by simp [zm_0, zr_num, zm_num, zq_upd, c_6, c_14, c_24, eq_true c_34]) dX10_number__51
