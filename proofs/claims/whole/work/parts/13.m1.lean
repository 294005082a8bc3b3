set_option maxHeartbeats 4000000 in
set_option maxRecDepth 100000 in
theorem kX10_digit (l : Launch) (g : za_G) (E : za_E) (c : Int32) : za_Ci l g E yX10_digit cX10_digit 1 ((some .boolean)) 0 0 0 [.int c] [] (fun r (_ : Unit) => r = zr_digit c) (fun _ => []) := by
  refine za_begin (by decide) (Nat.le_of_ble_eq_true rfl) RX10 rfl ?_
  intro p e s m args below meth co A ls Q H locs C hQ hr hlocks hnm hS hP hD hl
  obtain ⟨hx, hb, hml, hown, hts, hK, hA, hE⟩ := id C
  have hl : lv_has ls 1 [(0, .int c)] := hl
  refine lv_iload_n hx hb dX10_digit_0 rfl (lv_at hl 0 rfl) ?_
  refine lv_bipush (v := 48) hx hb dX10_digit_1 (by decide) ?_
  refine lv_icmp_lt (tgt := 16) hx hb dX10_digit_3 (by decide) (fun c_3 => ?_) (fun c_3 => ?_)
  · refine lv_iconst (v := 0) hx hb dX10_digit_16 (by decide) ?_
    exact zm_rn hQ hx hb hr hlocks hK hP hD hS rfl (by simp [zr_digit, zq_upd, c_3]) dX10_digit_17
  · refine lv_iload_n hx hb dX10_digit_6 rfl (lv_at hl 0 rfl) ?_
    refine lv_bipush (v := 57) hx hb dX10_digit_7 (by decide) ?_
    refine lv_icmp_gt (tgt := 16) hx hb dX10_digit_9 (by decide) (fun c_9 => ?_) (fun c_9 => ?_)
    · refine lv_iconst (v := 0) hx hb dX10_digit_16 (by decide) ?_
      exact zm_rn hQ hx hb hr hlocks hK hP hD hS rfl (by simp [zr_digit, zq_upd, c_3, c_9]) dX10_digit_17
    · refine lv_iconst (v := 1) hx hb dX10_digit_12 (by decide) ?_
      refine lv_goto (tgt := 17) hx hb dX10_digit_13 (by decide) ?_
      exact zm_rn hQ hx hb hr hlocks hK hP hD hS rfl (by simp [zr_digit, zq_upd, c_3, c_9]) dX10_digit_17
set_option maxHeartbeats 4000000 in
set_option maxRecDepth 100000 in
theorem kX10_letter (l : Launch) (g : za_G) (E : za_E) (c : Int32) : za_Ci l g E yX10_letter cX10_letter 1 ((some .boolean)) 0 0 0 [.int c] [] (fun r (_ : Unit) => r = zr_letter c) (fun _ => []) := by
  refine za_begin (by decide) (Nat.le_of_ble_eq_true rfl) RX10 rfl ?_
  intro p e s m args below meth co A ls Q H locs C hQ hr hlocks hnm hS hP hD hl
  obtain ⟨hx, hb, hml, hown, hts, hK, hA, hE⟩ := id C
  have hl : lv_has ls 1 [(0, .int c)] := hl
  refine lv_iload_n hx hb dX10_letter_0 rfl (lv_at hl 0 rfl) ?_
  refine lv_bipush (v := 97) hx hb dX10_letter_1 (by decide) ?_
  refine lv_icmp_lt (tgt := 12) hx hb dX10_letter_3 (by decide) (fun c_3 => ?_) (fun c_3 => ?_)
  · refine lv_iload_n hx hb dX10_letter_12 rfl (lv_at hl 0 rfl) ?_
    refine lv_bipush (v := 65) hx hb dX10_letter_13 (by decide) ?_
    refine lv_icmp_lt (tgt := 24) hx hb dX10_letter_15 (by decide) (fun c_15 => ?_) (fun c_15 => ?_)
    · refine lv_iload_n hx hb dX10_letter_24 rfl (lv_at hl 0 rfl) ?_
      refine lv_bipush (v := 95) hx hb dX10_letter_25 (by decide) ?_
      refine lv_icmp_ne (tgt := 34) hx hb dX10_letter_27 (by decide) (fun c_27 => ?_) (fun c_27 => ?_)
      · refine lv_iconst (v := 0) hx hb dX10_letter_34 (by decide) ?_
        exact zm_rn hQ hx hb hr hlocks hK hP hD hS rfl (by simp [zr_letter, zq_upd, c_3, c_15, c_27]) dX10_letter_35
      · refine lv_iconst (v := 1) hx hb dX10_letter_30 (by decide) ?_
        refine lv_goto (tgt := 35) hx hb dX10_letter_31 (by decide) ?_
        exact zm_rn hQ hx hb hr hlocks hK hP hD hS rfl (by simp [zr_letter, zq_upd, c_3, c_15, eq_true c_27]) dX10_letter_35
    · refine lv_iload_n hx hb dX10_letter_18 rfl (lv_at hl 0 rfl) ?_
      refine lv_bipush (v := 90) hx hb dX10_letter_19 (by decide) ?_
      refine za_icmp_le (tgt := 30) hx hb dX10_letter_21 (by decide) (fun c_21 => ?_) (fun c_21 => ?_)
      · refine lv_iconst (v := 1) hx hb dX10_letter_30 (by decide) ?_
        refine lv_goto (tgt := 35) hx hb dX10_letter_31 (by decide) ?_
        exact zm_rn hQ hx hb hr hlocks hK hP hD hS rfl (by simp [zr_letter, zq_upd, c_3, c_15, c_21]) dX10_letter_35
      · refine lv_iload_n hx hb dX10_letter_24 rfl (lv_at hl 0 rfl) ?_
        refine lv_bipush (v := 95) hx hb dX10_letter_25 (by decide) ?_
        refine lv_icmp_ne (tgt := 34) hx hb dX10_letter_27 (by decide) (fun c_27 => ?_) (fun c_27 => ?_)
        · refine lv_iconst (v := 0) hx hb dX10_letter_34 (by decide) ?_
          exact zm_rn hQ hx hb hr hlocks hK hP hD hS rfl (by simp [zr_letter, zq_upd, c_3, c_15, c_21, c_27]) dX10_letter_35
        · refine lv_iconst (v := 1) hx hb dX10_letter_30 (by decide) ?_
          refine lv_goto (tgt := 35) hx hb dX10_letter_31 (by decide) ?_
          exact zm_rn hQ hx hb hr hlocks hK hP hD hS rfl (by simp [zr_letter, zq_upd, c_3, c_15, c_21, eq_true c_27]) dX10_letter_35
  · refine lv_iload_n hx hb dX10_letter_6 rfl (lv_at hl 0 rfl) ?_
    refine lv_bipush (v := 122) hx hb dX10_letter_7 (by decide) ?_
    refine za_icmp_le (tgt := 30) hx hb dX10_letter_9 (by decide) (fun c_9 => ?_) (fun c_9 => ?_)
    · refine lv_iconst (v := 1) hx hb dX10_letter_30 (by decide) ?_
      refine lv_goto (tgt := 35) hx hb dX10_letter_31 (by decide) ?_
      exact zm_rn hQ hx hb hr hlocks hK hP hD hS rfl (by simp [zr_letter, zq_upd, c_3, c_9]) dX10_letter_35
    · refine lv_iload_n hx hb dX10_letter_12 rfl (lv_at hl 0 rfl) ?_
      refine lv_bipush (v := 65) hx hb dX10_letter_13 (by decide) ?_
      refine lv_icmp_lt (tgt := 24) hx hb dX10_letter_15 (by decide) (fun c_15 => ?_) (fun c_15 => ?_)
      · refine lv_iload_n hx hb dX10_letter_24 rfl (lv_at hl 0 rfl) ?_
        refine lv_bipush (v := 95) hx hb dX10_letter_25 (by decide) ?_
        refine lv_icmp_ne (tgt := 34) hx hb dX10_letter_27 (by decide) (fun c_27 => ?_) (fun c_27 => ?_)
        · refine lv_iconst (v := 0) hx hb dX10_letter_34 (by decide) ?_
          exact zm_rn hQ hx hb hr hlocks hK hP hD hS rfl (by simp [zr_letter, zq_upd, c_3, c_9, c_15, c_27]) dX10_letter_35
        · refine lv_iconst (v := 1) hx hb dX10_letter_30 (by decide) ?_
          refine lv_goto (tgt := 35) hx hb dX10_letter_31 (by decide) ?_
          exact zm_rn hQ hx hb hr hlocks hK hP hD hS rfl (by simp [zr_letter, zq_upd, c_3, c_9, c_15, eq_true c_27]) dX10_letter_35
      · refine lv_iload_n hx hb dX10_letter_18 rfl (lv_at hl 0 rfl) ?_
        refine lv_bipush (v := 90) hx hb dX10_letter_19 (by decide) ?_
        refine za_icmp_le (tgt := 30) hx hb dX10_letter_21 (by decide) (fun c_21 => ?_) (fun c_21 => ?_)
        · refine lv_iconst (v := 1) hx hb dX10_letter_30 (by decide) ?_
          refine lv_goto (tgt := 35) hx hb dX10_letter_31 (by decide) ?_
          exact zm_rn hQ hx hb hr hlocks hK hP hD hS rfl (by simp [zr_letter, zq_upd, c_3, c_9, c_15, c_21]) dX10_letter_35
        · refine lv_iload_n hx hb dX10_letter_24 rfl (lv_at hl 0 rfl) ?_
          refine lv_bipush (v := 95) hx hb dX10_letter_25 (by decide) ?_
          refine lv_icmp_ne (tgt := 34) hx hb dX10_letter_27 (by decide) (fun c_27 => ?_) (fun c_27 => ?_)
          · refine lv_iconst (v := 0) hx hb dX10_letter_34 (by decide) ?_
            exact zm_rn hQ hx hb hr hlocks hK hP hD hS rfl (by simp [zr_letter, zq_upd, c_3, c_9, c_15, c_21, c_27]) dX10_letter_35
          · refine lv_iconst (v := 1) hx hb dX10_letter_30 (by decide) ?_
            refine lv_goto (tgt := 35) hx hb dX10_letter_31 (by decide) ?_
            exact zm_rn hQ hx hb hr hlocks hK hP hD hS rfl (by simp [zr_letter, zq_upd, c_3, c_9, c_15, c_21, eq_true c_27]) dX10_letter_35
set_option maxHeartbeats 4000000 in
set_option maxRecDepth 100000 in
theorem kX10_worth (l : Launch) (g : za_G) (E : za_E) (c : Int32) : za_Ci l g E yX10_worth cX10_worth 1 ((some .int)) 1 0 0 [.int c] [] (fun r (_ : Unit) => r = zr_worth c) (fun _ => []) := by
  refine za_begin (by decide) (Nat.le_of_ble_eq_true rfl) RX10 rfl ?_
  intro p e s m args below meth co A ls Q H locs C hQ hr hlocks hnm hS hP hD hl
  obtain ⟨hx, hb, hml, hown, hts, hK, hA, hE⟩ := id C
  have hl : lv_has ls 1 [(0, .int c)] := hl
  refine lv_iload_n hx hb dX10_worth_0 rfl (lv_at hl 0 rfl) ?_
  refine za_ci (wc := []) (wr := []) C hP hD hS [] [] rfl rfl (by decide) (by decide) (za_runS C hP hD hS [] rfl (by decide) rfl (kX10_digit l g E  c ) w_996 mX10_digit rfl hl.1 rfl (Nat.le_of_ble_eq_true rfl) dX10_worth_1 ⟨by decide, by decide⟩ ⟨by decide, by decide⟩) (fun r1 _ H locs hr1 hP hD hS => ?_)
  refine lv_if_eq (tgt := 14) hx hb dX10_worth_4 (by decide) (fun c_4 => ?_) (fun c_4 => ?_)
  · refine lv_iload_n hx hb dX10_worth_14 rfl (lv_at hl 0 rfl) ?_
    refine lv_bipush (v := 97) hx hb dX10_worth_15 (by decide) ?_
    refine lv_icmp_lt (tgt := 36) hx hb dX10_worth_17 (by decide) (fun c_17 => ?_) (fun c_17 => ?_)
    · refine lv_iload_n hx hb dX10_worth_36 rfl (lv_at hl 0 rfl) ?_
      refine lv_bipush (v := 65) hx hb dX10_worth_37 (by decide) ?_
      refine lv_icmp_lt (tgt := 58) hx hb dX10_worth_39 (by decide) (fun c_39 => ?_) (fun c_39 => ?_)
      · refine lv_bipush (v := 99) hx hb dX10_worth_58 (by decide) ?_
        subst hr1
        exact zm_rn hQ hx hb hr hlocks hK hP hD hS rfl (by simp [zr_worth, zq_upd, eq_true c_4, c_17, c_39]) dX10_worth_60
      · refine lv_iload_n hx hb dX10_worth_42 rfl (lv_at hl 0 rfl) ?_
        refine lv_bipush (v := 70) hx hb dX10_worth_43 (by decide) ?_
        refine lv_icmp_gt (tgt := 58) hx hb dX10_worth_45 (by decide) (fun c_45 => ?_) (fun c_45 => ?_)
        · refine lv_bipush (v := 99) hx hb dX10_worth_58 (by decide) ?_
          subst hr1
          exact zm_rn hQ hx hb hr hlocks hK hP hD hS rfl (by simp [zr_worth, zq_upd, eq_true c_4, c_17, c_39, c_45]) dX10_worth_60
        · refine lv_iload_n hx hb dX10_worth_48 rfl (lv_at hl 0 rfl) ?_
          refine lv_bipush (v := 65) hx hb dX10_worth_49 (by decide) ?_
          refine lv_isub hx hb dX10_worth_51 ?_
          refine lv_bipush (v := 10) hx hb dX10_worth_52 (by decide) ?_
          refine lv_iadd hx hb dX10_worth_54 ?_
          refine lv_goto (tgt := 60) hx hb dX10_worth_55 (by decide) ?_
          subst hr1
          exact zm_rn hQ hx hb hr hlocks hK hP hD hS rfl (by simp [zr_worth, zq_upd, eq_true c_4, c_17, c_39, c_45]) dX10_worth_60
    · refine lv_iload_n hx hb dX10_worth_20 rfl (lv_at hl 0 rfl) ?_
      refine lv_bipush (v := 102) hx hb dX10_worth_21 (by decide) ?_
      refine lv_icmp_gt (tgt := 36) hx hb dX10_worth_23 (by decide) (fun c_23 => ?_) (fun c_23 => ?_)
      · refine lv_iload_n hx hb dX10_worth_36 rfl (lv_at hl 0 rfl) ?_
        refine lv_bipush (v := 65) hx hb dX10_worth_37 (by decide) ?_
        refine lv_icmp_lt (tgt := 58) hx hb dX10_worth_39 (by decide) (fun c_39 => ?_) (fun c_39 => ?_)
        · refine lv_bipush (v := 99) hx hb dX10_worth_58 (by decide) ?_
          subst hr1
          exact zm_rn hQ hx hb hr hlocks hK hP hD hS rfl (by simp [zr_worth, zq_upd, eq_true c_4, c_17, c_23, c_39]) dX10_worth_60
        · refine lv_iload_n hx hb dX10_worth_42 rfl (lv_at hl 0 rfl) ?_
          refine lv_bipush (v := 70) hx hb dX10_worth_43 (by decide) ?_
          refine lv_icmp_gt (tgt := 58) hx hb dX10_worth_45 (by decide) (fun c_45 => ?_) (fun c_45 => ?_)
          · refine lv_bipush (v := 99) hx hb dX10_worth_58 (by decide) ?_
            subst hr1
            exact zm_rn hQ hx hb hr hlocks hK hP hD hS rfl (by simp [zr_worth, zq_upd, eq_true c_4, c_17, c_23, c_39, c_45]) dX10_worth_60
          · refine lv_iload_n hx hb dX10_worth_48 rfl (lv_at hl 0 rfl) ?_
            refine lv_bipush (v := 65) hx hb dX10_worth_49 (by decide) ?_
            refine lv_isub hx hb dX10_worth_51 ?_
            refine lv_bipush (v := 10) hx hb dX10_worth_52 (by decide) ?_
            refine lv_iadd hx hb dX10_worth_54 ?_
            refine lv_goto (tgt := 60) hx hb dX10_worth_55 (by decide) ?_
            subst hr1
            exact zm_rn hQ hx hb hr hlocks hK hP hD hS rfl (by simp [zr_worth, zq_upd, eq_true c_4, c_17, c_23, c_39, c_45]) dX10_worth_60
      · refine lv_iload_n hx hb dX10_worth_26 rfl (lv_at hl 0 rfl) ?_
        refine lv_bipush (v := 97) hx hb dX10_worth_27 (by decide) ?_
        refine lv_isub hx hb dX10_worth_29 ?_
        refine lv_bipush (v := 10) hx hb dX10_worth_30 (by decide) ?_
        refine lv_iadd hx hb dX10_worth_32 ?_
        refine lv_goto (tgt := 60) hx hb dX10_worth_33 (by decide) ?_
        subst hr1
        exact zm_rn hQ hx hb hr hlocks hK hP hD hS rfl (by simp [zr_worth, zq_upd, eq_true c_4, c_17, c_23]) dX10_worth_60
  · refine lv_iload_n hx hb dX10_worth_7 rfl (lv_at hl 0 rfl) ?_
    refine lv_bipush (v := 48) hx hb dX10_worth_8 (by decide) ?_
    refine lv_isub hx hb dX10_worth_10 ?_
    refine lv_goto (tgt := 60) hx hb dX10_worth_11 (by decide) ?_
    subst hr1
    exact zm_rn hQ hx hb hr hlocks hK hP hD hS rfl (by simp [zr_worth, zq_upd, c_4]) dX10_worth_60
set_option maxHeartbeats 4000000 in
set_option maxRecDepth 100000 in
theorem kX10_byteAt (l : Launch) (g : za_G) (E : za_E) (h : Nat) (ad : Nat → Nat) (M : zm_M) (i : Int32) (hi : vp_in i 65536) : za_Ci l g E yX10_byteAt cX10_byteAt 2 ((some .int)) 0 0 0 [.ref h, .int i] (zm_ws g h ad M) (fun r (_ : Unit) => r = zr_byteAt M i) (fun _ => zm_ws g h ad M) := by
  refine za_begin (by decide) (Nat.le_of_ble_eq_true rfl) RX10 rfl ?_
  intro p e s m args below meth co A ls Q H locs C hQ hr hlocks hnm hS hP hD hl
  obtain ⟨hx, hb, hml, hown, hts, hK, hA, hE⟩ := id C
  have hl : lv_has ls 2 [(0, .ref h), (1, .int i)] := hl
  refine lv_aload_n hx hb dX10_byteAt_0 rfl (lv_at hl 0 rfl) ?_
  refine va_get (ci := 9) (v := .ref (ad 1)) hx hb hts iX10 hown hK hP 0 rfl rfl 1 (by decide) (hts _ w_812) (fun _ h9 => h9) rfl dX10_byteAt_1 ?_
  refine lv_iload_n hx hb dX10_byteAt_4 rfl (lv_at hl 1 rfl) ?_
  refine va_bald (f := M.2.1 1) hx hb hK hP 1 0 rfl rfl (by first | assumption | exact hin_5) dX10_byteAt_5 ?_
  refine lv_sipush (v := 255) hx hb dX10_byteAt_6 (by decide) ?_
  refine lv_iand hx hb dX10_byteAt_9 ?_
  exact zm_ri hQ hx hb hr hlocks hK hP hD hS rfl (by first | rfl | simp [zr_byteAt, zq_upd]) dX10_byteAt_10
set_option maxHeartbeats 4000000 in
set_option maxRecDepth 100000 in
theorem kX10_error (l : Launch) (g : za_G) (E : za_E) (h : Nat) (ad : Nat → Nat) (M : zm_M)  : za_Cv l g E yX10_error cX10_error 1 0 0 0 [.ref h] (zm_ws g h ad M) (fun u : zm_M => u = zm_error M) (fun u => zm_ws g h ad u) := by
  refine za_begin (by decide) (Nat.le_of_ble_eq_true rfl) RX10 rfl ?_
  intro p e s m args below meth co A ls Q H locs C hQ hr hlocks hnm hS hP hD hl
  obtain ⟨hx, hb, hml, hown, hts, hK, hA, hE⟩ := id C
  have hl : lv_has ls 1 [(0, .ref h)] := hl
  refine lv_aload_n hx hb dX10_error_0 rfl (lv_at hl 0 rfl) ?_
  refine va_get (ci := 9) (v := .int (M.1 30)) hx hb hts iX10 hown hK hP 0 rfl rfl 30 (by decide) (hts _ w_841) (fun _ h9 => h9) rfl dX10_error_1 ?_
  refine za_if_ge (tgt := 15) hx hb dX10_error_4 (by decide) (fun c_4 => ?_) (fun c_4 => ?_)
  · exact zm_rv hQ hx hb hr hlocks hK hP hD hS (by simp [zm_error, zq_upd, c_4]) dX10_error_15
  · refine lv_aload_n hx hb dX10_error_7 rfl (lv_at hl 0 rfl) ?_
    refine lv_aload_n hx hb dX10_error_8 rfl (lv_at hl 0 rfl) ?_
    refine va_get (ci := 9) (v := .int (M.1 27)) hx hb hts iX10 hown hK hP 0 rfl rfl 27 (by decide) (hts _ w_838) (fun _ h9 => h9) rfl dX10_error_9 ?_
    refine va_put (ci := 9) (v := .int (M.1 27)) hx hb hts iX10 tyX10 tyX10_ok nmX10 hown hK hP hD hS 0 rfl rfl 30 (by decide) (hts _ w_841) (fun _ h9 => h9) rfl (tyX10_ok 30 (by decide)) rfl rfl (Nat.le_of_ble_eq_true rfl) dX10_error_12 (fun H locs hP hD hS => ?_)
    have hP : va_P g.1 vwCl (zm_ws g h ad (zm_s M 30 (M.1 27))) H := hP
    have hD : va_D A (zm_ws g h ad (zm_s M 30 (M.1 27))) := hD
    exact zm_rv hQ hx hb hr hlocks hK hP hD hS (by simp [zm_error, zq_upd, c_4]) dX10_error_15
set_option maxHeartbeats 4000000 in
set_option maxRecDepth 100000 in
theorem kX10_begin (l : Launch) (g : za_G) (E : za_E) (h : Nat) (ad : Nat → Nat) (M : zm_M) (what : Int32) : za_Cv l g E yX10_begin cX10_begin 2 0 0 0 [.ref h, .int what] (zm_ws g h ad M) (fun u : zm_M => u = zm_begin M what) (fun u => zm_ws g h ad u) := by
  refine za_begin (by decide) (Nat.le_of_ble_eq_true rfl) RX10 rfl ?_
  intro p e s m args below meth co A ls Q H locs C hQ hr hlocks hnm hS hP hD hl
  obtain ⟨hx, hb, hml, hown, hts, hK, hA, hE⟩ := id C
  have hl : lv_has ls 2 [(0, .ref h), (1, .int what)] := hl
  refine lv_aload_n hx hb dX10_begin_0 rfl (lv_at hl 0 rfl) ?_
  refine lv_iload_n hx hb dX10_begin_1 rfl (lv_at hl 1 rfl) ?_
  refine va_put (ci := 9) (v := .int what) hx hb hts iX10 tyX10 tyX10_ok nmX10 hown hK hP hD hS 0 rfl rfl 21 (by decide) (hts _ w_832) (fun _ h9 => h9) rfl (tyX10_ok 21 (by decide)) rfl rfl (Nat.le_of_ble_eq_true rfl) dX10_begin_2 (fun H locs hP hD hS => ?_)
  have hP : va_P g.1 vwCl (zm_ws g h ad (zm_s M 21 what)) H := hP
  have hD : va_D A (zm_ws g h ad (zm_s M 21 what)) := hD
  refine lv_aload_n hx hb dX10_begin_5 rfl (lv_at hl 0 rfl) ?_
  refine lv_aload_n hx hb dX10_begin_6 rfl (lv_at hl 0 rfl) ?_
  refine va_get (ci := 9) (v := .int (M.1 27)) hx hb hts iX10 hown hK hP 0 rfl rfl 27 (by decide) (hts _ w_838) (fun _ h9 => h9) rfl dX10_begin_7 ?_
  refine va_put (ci := 9) (v := .int (M.1 27)) hx hb hts iX10 tyX10 tyX10_ok nmX10 hown hK hP hD hS 0 rfl rfl 23 (by decide) (hts _ w_834) (fun _ h9 => h9) rfl (tyX10_ok 23 (by decide)) rfl rfl (Nat.le_of_ble_eq_true rfl) dX10_begin_10 (fun H locs hP hD hS => ?_)
  have hP : va_P g.1 vwCl (zm_ws g h ad (zm_s (zm_s M 21 what) 23 (M.1 27))) H := hP
  have hD : va_D A (zm_ws g h ad (zm_s (zm_s M 21 what) 23 (M.1 27))) := hD
  refine lv_aload_n hx hb dX10_begin_13 rfl (lv_at hl 0 rfl) ?_
  refine lv_aload_n hx hb dX10_begin_14 rfl (lv_at hl 0 rfl) ?_
  refine va_get (ci := 9) (v := .int (M.1 28)) hx hb hts iX10 hown hK hP 0 rfl rfl 28 (by decide) (hts _ w_839) (fun _ h9 => h9) rfl dX10_begin_15 ?_
  refine va_put (ci := 9) (v := .int (M.1 28)) hx hb hts iX10 tyX10 tyX10_ok nmX10 hown hK hP hD hS 0 rfl rfl 24 (by decide) (hts _ w_835) (fun _ h9 => h9) rfl (tyX10_ok 24 (by decide)) rfl rfl (Nat.le_of_ble_eq_true rfl) dX10_begin_18 (fun H locs hP hD hS => ?_)
  have hP : va_P g.1 vwCl (zm_ws g h ad (zm_s (zm_s (zm_s M 21 what) 23 (M.1 27)) 24 (M.1 28))) H := hP
  have hD : va_D A (zm_ws g h ad (zm_s (zm_s (zm_s M 21 what) 23 (M.1 27)) 24 (M.1 28))) := hD
  refine lv_aload_n hx hb dX10_begin_21 rfl (lv_at hl 0 rfl) ?_
  refine lv_aload_n hx hb dX10_begin_22 rfl (lv_at hl 0 rfl) ?_
  refine va_get (ci := 9) (v := .int (M.1 27)) hx hb hts iX10 hown hK hP 0 rfl rfl 27 (by decide) (hts _ w_838) (fun _ h9 => h9) rfl dX10_begin_23 ?_
  refine lv_aload_n hx hb dX10_begin_26 rfl (lv_at hl 0 rfl) ?_
  refine va_get (ci := 9) (v := .int (M.1 29)) hx hb hts iX10 hown hK hP 0 rfl rfl 29 (by decide) (hts _ w_840) (fun _ h9 => h9) rfl dX10_begin_27 ?_
  refine lv_isub hx hb dX10_begin_30 ?_
  refine lv_iconst (v := 1) hx hb dX10_begin_31 (by decide) ?_
  refine lv_iadd hx hb dX10_begin_32 ?_
  refine va_put (ci := 9) (v := .int (((M.1 27) - (M.1 29)) + 1)) hx hb hts iX10 tyX10 tyX10_ok nmX10 hown hK hP hD hS 0 rfl rfl 25 (by decide) (hts _ w_836) (fun _ h9 => h9) rfl (tyX10_ok 25 (by decide)) rfl rfl (Nat.le_of_ble_eq_true rfl) dX10_begin_33 (fun H locs hP hD hS => ?_)
  have hP : va_P g.1 vwCl (zm_ws g h ad (zm_s (zm_s (zm_s (zm_s M 21 what) 23 (M.1 27)) 24 (M.1 28)) 25 (((M.1 27) - (M.1 29)) + 1))) H := hP
  have hD : va_D A (zm_ws g h ad (zm_s (zm_s (zm_s (zm_s M 21 what) 23 (M.1 27)) 24 (M.1 28)) 25 (((M.1 27) - (M.1 29)) + 1))) := hD
  exact zm_rv hQ hx hb hr hlocks hK hP hD hS (by first | rfl | simp [zm_begin, zq_upd]) dX10_begin_36
set_option maxHeartbeats 4000000 in
set_option maxRecDepth 100000 in
theorem kX10_room (l : Launch) (g : za_G) (E : za_E) (h : Nat) (ad : Nat → Nat) (M : zm_M) (q : Int32) : za_Ci l g E yX10_room cX10_room 2 ((some .boolean)) 0 0 0 [.ref h, .int q] (zm_ws g h ad M) (fun r (u : zm_M) => r = zr_room M ∧ u = zm_room M q) (fun u => zm_ws g h ad u) := by
  refine za_begin (by decide) (Nat.le_of_ble_eq_true rfl) RX10 rfl ?_
  intro p e s m args below meth co A ls Q H locs C hQ hr hlocks hnm hS hP hD hl
  obtain ⟨hx, hb, hml, hown, hts, hK, hA, hE⟩ := id C
  have hl : lv_has ls 2 [(0, .ref h), (1, .int q)] := hl
  refine lv_aload_n hx hb dX10_room_0 rfl (lv_at hl 0 rfl) ?_
  refine va_get (ci := 9) (v := .int (M.1 3)) hx hb hts iX10 hown hK hP 0 rfl rfl 3 (by decide) (hts _ w_814) (fun _ h9 => h9) rfl dX10_room_1 ?_
  refine lv_sipush (v := 16384) hx hb dX10_room_4 (by decide) ?_
  refine za_icmp_ge (tgt := 12) hx hb dX10_room_7 (by decide) (fun c_7 => ?_) (fun c_7 => ?_)
  · refine lv_aload_n hx hb dX10_room_12 rfl (lv_at hl 0 rfl) ?_
    refine va_get (ci := 9) (v := .int (M.1 30)) hx hb hts iX10 hown hK hP 0 rfl rfl 30 (by decide) (hts _ w_841) (fun _ h9 => h9) rfl dX10_room_13 ?_
    refine lv_if_lt (tgt := 27) hx hb dX10_room_16 (by decide) (fun c_16 => ?_) (fun c_16 => ?_)
    · refine lv_aload_n hx hb dX10_room_27 rfl (lv_at hl 0 rfl) ?_
      refine lv_iload_n hx hb dX10_room_28 rfl (lv_at hl 1 rfl) ?_
      refine va_put (ci := 9) (v := .int q) hx hb hts iX10 tyX10 tyX10_ok nmX10 hown hK hP hD hS 0 rfl rfl 30 (by decide) (hts _ w_841) (fun _ h9 => h9) rfl (tyX10_ok 30 (by decide)) rfl rfl (Nat.le_of_ble_eq_true rfl) dX10_room_29 (fun H locs hP hD hS => ?_)
      have hP : va_P g.1 vwCl (zm_ws g h ad (zm_s M 30 q)) H := hP
      have hD : va_D A (zm_ws g h ad (zm_s M 30 q)) := hD
      refine lv_iconst (v := 0) hx hb dX10_room_32 (by decide) ?_
      exact zm_riw hQ hx hb hr hlocks hK hP hD hS rfl (by simp [zr_room, zm_room, zq_upd, c_7, c_16]) (by simp [zr_room, zm_room, zq_upd, c_7, c_16]) dX10_room_33
    · refine lv_iload_n hx hb dX10_room_19 rfl (lv_at hl 1 rfl) ?_
      refine lv_aload_n hx hb dX10_room_20 rfl (lv_at hl 0 rfl) ?_
      refine va_get (ci := 9) (v := .int (M.1 30)) hx hb hts iX10 hown hK hP 0 rfl rfl 30 (by decide) (hts _ w_841) (fun _ h9 => h9) rfl dX10_room_21 ?_
      refine za_icmp_ge (tgt := 32) hx hb dX10_room_24 (by decide) (fun c_24 => ?_) (fun c_24 => ?_)
      · refine lv_iconst (v := 0) hx hb dX10_room_32 (by decide) ?_
        exact zm_riw hQ hx hb hr hlocks hK hP hD hS rfl (by simp [zr_room, zm_room, zq_upd, c_7, c_16, c_24]) (by simp [zr_room, zm_room, zq_upd, c_7, c_16, c_24]) dX10_room_33
      · refine lv_aload_n hx hb dX10_room_27 rfl (lv_at hl 0 rfl) ?_
        refine lv_iload_n hx hb dX10_room_28 rfl (lv_at hl 1 rfl) ?_
        refine va_put (ci := 9) (v := .int q) hx hb hts iX10 tyX10 tyX10_ok nmX10 hown hK hP hD hS 0 rfl rfl 30 (by decide) (hts _ w_841) (fun _ h9 => h9) rfl (tyX10_ok 30 (by decide)) rfl rfl (Nat.le_of_ble_eq_true rfl) dX10_room_29 (fun H locs hP hD hS => ?_)
        have hP : va_P g.1 vwCl (zm_ws g h ad (zm_s M 30 q)) H := hP
        have hD : va_D A (zm_ws g h ad (zm_s M 30 q)) := hD
        refine lv_iconst (v := 0) hx hb dX10_room_32 (by decide) ?_
        exact zm_riw hQ hx hb hr hlocks hK hP hD hS rfl (by simp [zr_room, zm_room, zq_upd, c_7, c_16, c_24]) (by simp [zr_room, zm_room, zq_upd, c_7, c_16, c_24]) dX10_room_33
  · refine lv_iconst (v := 1) hx hb dX10_room_10 (by decide) ?_
    exact zm_riw hQ hx hb hr hlocks hK hP hD hS rfl (by simp [zr_room, zm_room, zq_upd, c_7]) (by simp [zr_room, zm_room, zq_upd, c_7]) dX10_room_11
set_option maxHeartbeats 4000000 in
set_option maxRecDepth 100000 in
theorem kX10_keep (l : Launch) (g : za_G) (E : za_E) (h : Nat) (ad : Nat → Nat) (M : zm_M) (b : Int32) (hi : vp_in (M.1 15) 65536) : za_Cv l g E yX10_keep cX10_keep 2 0 0 0 [.ref h, .int b] (zm_ws g h ad M) (fun u : zm_M => u = zm_keep M b) (fun u => zm_ws g h ad u) := by
  refine za_begin (by decide) (Nat.le_of_ble_eq_true rfl) RX10 rfl ?_
  intro p e s m args below meth co A ls Q H locs C hQ hr hlocks hnm hS hP hD hl
  obtain ⟨hx, hb, hml, hown, hts, hK, hA, hE⟩ := id C
  have hl : lv_has ls 2 [(0, .ref h), (1, .int b)] := hl
  refine lv_aload_n hx hb dX10_keep_0 rfl (lv_at hl 0 rfl) ?_
  refine va_get (ci := 9) (v := .ref (ad 16)) hx hb hts iX10 hown hK hP 0 rfl rfl 16 (by decide) (hts _ w_827) (fun _ h9 => h9) rfl dX10_keep_1 ?_
  refine lv_aload_n hx hb dX10_keep_4 rfl (lv_at hl 0 rfl) ?_
  refine va_get (ci := 9) (v := .int (M.1 15)) hx hb hts iX10 hown hK hP 0 rfl rfl 15 (by decide) (hts _ w_826) (fun _ h9 => h9) rfl dX10_keep_5 ?_
  refine lv_iload_n hx hb dX10_keep_8 rfl (lv_at hl 1 rfl) ?_
  refine lv_i2b (v := b.toInt8.toInt32) hx hb dX10_keep_9 rfl ?_
  refine va_bast (f := M.2.1 16) hx hb hK hP hD hS 13 0 rfl rfl (by first | assumption | exact hin_10) dX10_keep_10 (fun H locs hP hD hS => ?_)
  have hP : va_P g.1 vwCl (zm_ws g h ad (zm_a M 16 (M.1 15) (vp_nar .byte b.toInt8.toInt32))) H := hP
  have hD : va_D A (zm_ws g h ad (zm_a M 16 (M.1 15) (vp_nar .byte b.toInt8.toInt32))) := hD
  refine lv_aload_n hx hb dX10_keep_11 rfl (lv_at hl 0 rfl) ?_
  refine lv_dup hx hb dX10_keep_12 rfl ?_
  refine va_get (ci := 9) (v := .int (M.1 15)) hx hb hts iX10 hown hK hP 0 rfl rfl 15 (by decide) (hts _ w_826) (fun _ h9 => h9) rfl dX10_keep_13 ?_
  refine lv_iconst (v := 1) hx hb dX10_keep_16 (by decide) ?_
  refine lv_iadd hx hb dX10_keep_17 ?_
  refine va_put (ci := 9) (v := .int ((M.1 15) + 1)) hx hb hts iX10 tyX10 tyX10_ok nmX10 hown hK hP hD hS 0 rfl rfl 15 (by decide) (hts _ w_826) (fun _ h9 => h9) rfl (tyX10_ok 15 (by decide)) rfl rfl (Nat.le_of_ble_eq_true rfl) dX10_keep_18 (fun H locs hP hD hS => ?_)
  have hP : va_P g.1 vwCl (zm_ws g h ad (zm_s (zm_a M 16 (M.1 15) (vp_nar .byte b.toInt8.toInt32)) 15 ((M.1 15) + 1))) H := hP
  have hD : va_D A (zm_ws g h ad (zm_s (zm_a M 16 (M.1 15) (vp_nar .byte b.toInt8.toInt32)) 15 ((M.1 15) + 1))) := hD
  exact zm_rv hQ hx hb hr hlocks hK hP hD hS (by first | rfl | simp [zm_keep, zq_upd]) dX10_keep_21
set_option maxHeartbeats 4000000 in
set_option maxRecDepth 100000 in
theorem kX10_opens (l : Launch) (g : za_G) (E : za_E) (h : Nat) (ad : Nat → Nat) (M : zm_M) (q what : Int32) : za_Cv l g E yX10_opens cX10_opens 3 1 0 0 [.ref h, .int q, .int what] (zm_ws g h ad M) (fun u : zm_M => u = zm_opens M q what) (fun u => zm_ws g h ad u) := by
  refine za_begin (by decide) (Nat.le_of_ble_eq_true rfl) RX10 rfl ?_
  intro p e s m args below meth co A ls Q H locs C hQ hr hlocks hnm hS hP hD hl
  obtain ⟨hx, hb, hml, hown, hts, hK, hA, hE⟩ := id C
  have hl : lv_has ls 3 [(0, .ref h), (1, .int q), (2, .int what)] := hl
  refine lv_aload_n hx hb dX10_opens_0 rfl (lv_at hl 0 rfl) ?_
  refine lv_iload_n hx hb dX10_opens_1 rfl (lv_at hl 2 rfl) ?_
  refine za_cv (wc := zm_ws g h ad M) (wr := []) C hP hD hS [0, 1, 2, 3, 4, 5, 6, 7, 8, 9, 10, 11, 12, 13, 14, 15, 16, 17] [] rfl rfl (by decide) (by decide) (za_runV C hP hD hS [0, 1, 2, 3, 4, 5, 6, 7, 8, 9, 10, 11, 12, 13, 14, 15, 16, 17] rfl (by decide) rfl (kX10_begin l g E h ad M what ) w_977 mX10_begin 0 rfl rfl rfl rfl hl.1 rfl (Nat.le_of_ble_eq_true rfl) dX10_opens_2 ⟨by decide, by decide⟩ ⟨by decide, by decide⟩) (fun M1 H locs hM1 hP hD hS => ?_)
  have hP : va_P g.1 vwCl (zm_ws g h ad M1) H := hP
  have hD : va_D A (zm_ws g h ad M1) := hD
  refine lv_aload_n hx hb dX10_opens_5 rfl (lv_at hl 0 rfl) ?_
  refine lv_iload_n hx hb dX10_opens_6 rfl (lv_at hl 1 rfl) ?_
  refine va_put (ci := 9) (v := .int q) hx hb hts iX10 tyX10 tyX10_ok nmX10 hown hK hP hD hS 0 rfl rfl 32 (by decide) (hts _ w_843) (fun _ h9 => h9) rfl (tyX10_ok 32 (by decide)) rfl rfl (Nat.le_of_ble_eq_true rfl) dX10_opens_7 (fun H locs hP hD hS => ?_)
  have hP : va_P g.1 vwCl (zm_ws g h ad (zm_s M1 32 q)) H := hP
  have hD : va_D A (zm_ws g h ad (zm_s M1 32 q)) := hD
  refine lv_aload_n hx hb dX10_opens_10 rfl (lv_at hl 0 rfl) ?_
  refine lv_iconst (v := 0) hx hb dX10_opens_11 (by decide) ?_
  refine va_put (ci := 9) (v := .int 0) hx hb hts iX10 tyX10 tyX10_ok nmX10 hown hK hP hD hS 0 rfl rfl 33 (by decide) (hts _ w_844) (fun _ h9 => h9) rfl (tyX10_ok 33 (by decide)) rfl rfl (Nat.le_of_ble_eq_true rfl) dX10_opens_12 (fun H locs hP hD hS => ?_)
  have hP : va_P g.1 vwCl (zm_ws g h ad (zm_s (zm_s M1 32 q) 33 0)) H := hP
  have hD : va_D A (zm_ws g h ad (zm_s (zm_s M1 32 q) 33 0)) := hD
  refine lv_aload_n hx hb dX10_opens_15 rfl (lv_at hl 0 rfl) ?_
  refine lv_iconst (v := 0) hx hb dX10_opens_16 (by decide) ?_
  refine va_put (ci := 9) (v := .int 0) hx hb hts iX10 tyX10 tyX10_ok nmX10 hown hK hP hD hS 0 rfl rfl 36 (by decide) (hts _ w_847) (fun _ h9 => h9) rfl (tyX10_ok 36 (by decide)) rfl rfl (Nat.le_of_ble_eq_true rfl) dX10_opens_17 (fun H locs hP hD hS => ?_)
  have hP : va_P g.1 vwCl (zm_ws g h ad (zm_s (zm_s (zm_s M1 32 q) 33 0) 36 0)) H := hP
  have hD : va_D A (zm_ws g h ad (zm_s (zm_s (zm_s M1 32 q) 33 0) 36 0)) := hD
  refine lv_aload_n hx hb dX10_opens_20 rfl (lv_at hl 0 rfl) ?_
  refine lv_iconst (v := 0) hx hb dX10_opens_21 (by decide) ?_
  refine va_put (ci := 9) (v := .int 0) hx hb hts iX10 tyX10 tyX10_ok nmX10 hown hK hP hD hS 0 rfl rfl 39 (by decide) (hts _ w_850) (fun _ h9 => h9) rfl (tyX10_ok 39 (by decide)) rfl rfl (Nat.le_of_ble_eq_true rfl) dX10_opens_22 (fun H locs hP hD hS => ?_)
  have hP : va_P g.1 vwCl (zm_ws g h ad (zm_s (zm_s (zm_s (zm_s M1 32 q) 33 0) 36 0) 39 0)) H := hP
  have hD : va_D A (zm_ws g h ad (zm_s (zm_s (zm_s (zm_s M1 32 q) 33 0) 36 0) 39 0)) := hD
  refine lv_aload_n hx hb dX10_opens_25 rfl (lv_at hl 0 rfl) ?_
  refine lv_iconst (v := 0) hx hb dX10_opens_26 (by decide) ?_
  refine va_put (ci := 9) (v := .int 0) hx hb hts iX10 tyX10 tyX10_ok nmX10 hown hK hP hD hS 0 rfl rfl 41 (by decide) (hts _ w_852) (fun _ h9 => h9) rfl (tyX10_ok 41 (by decide)) rfl rfl (Nat.le_of_ble_eq_true rfl) dX10_opens_27 (fun H locs hP hD hS => ?_)
  have hP : va_P g.1 vwCl (zm_ws g h ad (zm_s (zm_s (zm_s (zm_s (zm_s M1 32 q) 33 0) 36 0) 39 0) 41 0)) H := hP
  have hD : va_D A (zm_ws g h ad (zm_s (zm_s (zm_s (zm_s (zm_s M1 32 q) 33 0) 36 0) 39 0) 41 0)) := hD
  refine lv_aload_n hx hb dX10_opens_30 rfl (lv_at hl 0 rfl) ?_
  refine lv_iconst (v := 0) hx hb dX10_opens_31 (by decide) ?_
  refine va_put (ci := 9) (v := .int 0) hx hb hts iX10 tyX10 tyX10_ok nmX10 hown hK hP hD hS 0 rfl rfl 38 (by decide) (hts _ w_849) (fun _ h9 => h9) rfl (tyX10_ok 38 (by decide)) rfl rfl (Nat.le_of_ble_eq_true rfl) dX10_opens_32 (fun H locs hP hD hS => ?_)
  have hP : va_P g.1 vwCl (zm_ws g h ad (zm_s (zm_s (zm_s (zm_s (zm_s (zm_s M1 32 q) 33 0) 36 0) 39 0) 41 0) 38 0)) H := hP
  have hD : va_D A (zm_ws g h ad (zm_s (zm_s (zm_s (zm_s (zm_s (zm_s M1 32 q) 33 0) 36 0) 39 0) 41 0) 38 0)) := hD
  refine lv_aload_n hx hb dX10_opens_35 rfl (lv_at hl 0 rfl) ?_
  refine lv_aload_n hx hb dX10_opens_36 rfl (lv_at hl 0 rfl) ?_
  refine va_get (ci := 9) (v := .int (M1.1 15)) hx hb hts iX10 hown hK hP 0 rfl rfl 15 (by decide) (hts _ w_826) (fun _ h9 => h9) rfl dX10_opens_37 ?_
  refine va_put (ci := 9) (v := .int (M1.1 15)) hx hb hts iX10 tyX10 tyX10_ok nmX10 hown hK hP hD hS 0 rfl rfl 42 (by decide) (hts _ w_853) (fun _ h9 => h9) rfl (tyX10_ok 42 (by decide)) rfl rfl (Nat.le_of_ble_eq_true rfl) dX10_opens_40 (fun H locs hP hD hS => ?_)
  have hP : va_P g.1 vwCl (zm_ws g h ad (zm_s (zm_s (zm_s (zm_s (zm_s (zm_s (zm_s M1 32 q) 33 0) 36 0) 39 0) 41 0) 38 0) 42 (M1.1 15))) H := hP
  have hD : va_D A (zm_ws g h ad (zm_s (zm_s (zm_s (zm_s (zm_s (zm_s (zm_s M1 32 q) 33 0) 36 0) 39 0) 41 0) 38 0) 42 (M1.1 15))) := hD
  subst hM1
  exact zm_rv hQ hx hb hr hlocks hK hP hD hS (by simp [zm_opens, zq_upd]) dX10_opens_43
