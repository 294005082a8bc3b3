theorem zb_c.eq {N X Y : zc_N} {c s : Nat} (h : zb_c N X c s) (e : zc_L Y = zc_L X) : zb_c N Y c s := by
  unfold zb_c
  rw [e]
  exact h
theorem zb_c.one {N X : zc_N} {c s n : Nat} (h : zb_c N X c s) (hcap : zc_L X + n ≤ 360448) (h1 : 1 ≤ n) : c + 1 ≤ zc_rc N ∧ s + 2 * n ≤ zc_rs N := by
  obtain ⟨h2, h3⟩ := h
  unfold zc_rc zc_rs
  exact ⟨by omega, by omega⟩
theorem z_dbl (a : Nat) : nI a * 2 = nI (2 * a) := by
  show Int32.ofNat a * Int32.ofNat 2 = Int32.ofNat (2 * a)
  rw [← Int32.ofNat_mul, Nat.mul_comm]
theorem z_mul11 (a : Nat) : nI a * 11 = nI (a * 11) := by
  show Int32.ofNat a * Int32.ofNat 11 = Int32.ofNat (a * 11)
  rw [← Int32.ofNat_mul]
theorem z_and10 {x : Int32} (h : fits .byte (.int x) = true) : x &&& 255 = 10 ↔ x = 10 := by
  have h2 : (-128 : Int32) ≤ x ∧ x ≤ 127 := by
    have := h
    unfold fits at this
    simp only [Bool.and_eq_true, decide_eq_true_eq] at this
    exact this
  have a1 := Int32.le_iff_toInt_le.mp h2.1
  have a2 := Int32.le_iff_toInt_le.mp h2.2
  have e1 : (-128 : Int32).toInt = -128 := by decide
  have e2 : (127 : Int32).toInt = 127 := by decide
  rw [e1] at a1
  rw [e2] at a2
  have key : ∀ w : Nat, w < 256 → (Int32.ofInt ((w : Int) - 128) &&& 255 = 10 ↔ Int32.ofInt ((w : Int) - 128) = 10) := by decide +kernel
  have hx : x = Int32.ofInt (((x.toInt + 128).toNat : Int) - 128) := by
    rw [show (((x.toInt + 128).toNat : Int) - 128) = x.toInt by omega]
    exact (Int32.ofInt_toInt x).symm
  have hk := key (x.toInt + 128).toNat (by omega)
  rw [← hx] at hk
  exact hk
theorem zk_here10 {N : zc_N} (hI : zc_I N) : zk_here N = 10 ↔ ¬ N.1 62 < 0 ∧ N.1 62 < N.1 61 ∧ N.2.1 60 (N.1 62).toNatClampNeg = 10 := by
  have hb := z_and10 (hI.2.2.2.2.2.2.2 (N.1 62).toNatClampNeg)
  unfold zk_here
  by_cases c : ¬ N.1 62 < 0 ∧ N.1 62 < N.1 61
  · rw [if_pos c, hb]
    exact ⟨fun h => ⟨c.1, c.2, h⟩, fun h => h.2.2⟩
  · rw [if_neg c]
    exact ⟨fun h => absurd h (by decide), fun h => absurd ⟨h.1, h.2.1⟩ c⟩
theorem z_fact_in {N : zc_N} (hI : zc_I N) {k w : Int32} (h : ¬ zk_has N k = 0) (h0 : ¬ w < 0) (h1 : w < 11) : vp_in (k * 11 + w) (N.2.2.2 70) := by
  obtain ⟨t, t1, t2, t3⟩ := hI.2.2.1
  have hL := (zc_len hI 70 (by decide)).2
  unfold zk_has at h
  split at h
  · exact absurd rfl h
  · rename_i h9
    have hk0 : ¬ k < 0 := fun z => h9 (Or.inl z)
    have hk1 : k < N.1 71 := Decidable.byContradiction fun z => h9 (Or.inr z)
    obtain ⟨j, hj, rfl⟩ := nI_of hk0
    obtain ⟨i, hi, rfl⟩ := nI_of h0
    rw [t1] at hk1
    have h2 : j < t := (nI_ltI hj (by omega)).mp hk1
    have h3 : i < 11 := (nI_ltI hi (by decide)).mp h1
    rw [z_mul11, nI_add]
    exact vp_in_nI (by omega) (by omega)
theorem z_lit {a : Nat} {b : Nat} (ha : a < 2 ^ 31) (hb : b < 2 ^ 31) (h : nI a < nI b) : a < b := (nI_ltI ha hb).mp h
theorem z_pow7 {a b : Nat} (h : 2 ^ a < 2 ^ b) : a + 1 ≤ b := Nat.lt_of_not_le fun h9 => absurd (z_pw h9) (by omega)
/-- a row of bytes that is not full grows within its bounds -/
theorem zc_cap0 {N : zc_N} (hI : zc_I N) (h : nI (N.2.2.2 0) < 65536) : zc_L N + N.2.2.2 0 ≤ 360448 ∧ zc_I (zc_g N 0 (2 * N.2.2.2 0)) := by
  have hl := zc_len hI 0 (by decide)
  have h9 : N.2.2.2 0 < 65536 := z_lit (by omega) (by decide) h
  obtain ⟨⟨⟨a, a1, a2⟩, ⟨b, b1, b2⟩, ⟨c, c1, c2⟩, ⟨d, d1, d2, d3, d4⟩⟩, i2, i3, ⟨u, u1, u2⟩, i5, i6, i7, i8⟩ := hI
  have e8 : (2 : Nat) ^ 8 = 256 := rfl
  have e9 : (2 : Nat) ^ 9 = 512 := rfl
  have e7 : (2 : Nat) ^ 7 = 128 := rfl
  have hb : b + 1 ≤ 8 := z_pow7 (by omega)
  have hb7 := z_pw (show b ≤ 7 by omega)
  have ha := z_pw a1
  have hc := z_pw c1
  have hd := z_pw d1
  refine ⟨?_, ⟨⟨a, a1, a2⟩, ⟨b + 1, hb, ?_⟩, ⟨c, c1, c2⟩, ⟨d, d1, d2, d3, d4⟩⟩, i2, i3, ⟨u, u1, ?_⟩, i5, i6, fun i => ?_, i8⟩
  · unfold zc_L
    omega
  · show 2 * N.2.2.2 0 = _
    rw [b2, Nat.pow_succ]
    omega
  · show u ≤ 2 * N.2.2.2 0
    omega
  · show fits .byte (.int (if i < N.2.2.2 0 then N.2.1 0 i else 0)) = true
    split
    · exact i7 i
    · rfl
theorem zc_cap60 {N : zc_N} {x : Int32} (hI : zc_I N) (h : nI (N.2.2.2 60) < x) (hx : ¬ 65536 < x) : zc_L N + N.2.2.2 60 ≤ 360448 ∧ zc_I (zc_g N 60 (2 * N.2.2.2 60)) := by
  have hl := zc_len hI 60 (by decide)
  have h9 : N.2.2.2 60 < 65536 := by
    rw [Int32.lt_iff_toInt_lt] at h hx
    rw [nI_toInt (by omega)] at h
    have e1 : (65536 : Int32).toInt = 65536 := rfl
    omega
  obtain ⟨⟨⟨a, a1, a2⟩, ⟨b, b1, b2⟩, ⟨c, c1, c2⟩, ⟨d, d1, d2, d3, d4⟩⟩, ⟨u, u1, u2⟩, i3, i4, i5, i6, i7, i8⟩ := hI
  have e8 : (2 : Nat) ^ 8 = 256 := rfl
  have e9 : (2 : Nat) ^ 9 = 512 := rfl
  have e7 : (2 : Nat) ^ 7 = 128 := rfl
  have ha : a + 1 ≤ 8 := z_pow7 (by omega)
  have ha7 := z_pw (show a ≤ 7 by omega)
  have hb := z_pw b1
  have hc := z_pw c1
  have hd := z_pw d1
  refine ⟨?_, ⟨⟨a + 1, ha, ?_⟩, ⟨b, b1, b2⟩, ⟨c, c1, c2⟩, ⟨d, d1, d2, d3, d4⟩⟩, ⟨u, u1, ?_⟩, i3, i4, i5, i6, i7, fun i => ?_⟩
  · unfold zc_L
    omega
  · show 2 * N.2.2.2 60 = _
    rw [a2, Nat.pow_succ]
    omega
  · show u ≤ 2 * N.2.2.2 60
    omega
  · show fits .byte (.int (if i < N.2.2.2 60 then N.2.1 60 i else 0)) = true
    split
    · exact i8 i
    · rfl
theorem z_byte8 (v : Int32) : fits .byte (.int (vp_nar .byte v.toInt8.toInt32)) = true := by
  rw [pk_vb]
  exact pk_fb v
theorem zi_put0 {N : zc_N} (hI : zc_I N) {v : Int32} (hv : fits .byte (.int v) = true) (h : N.1 1 < nI (N.2.2.2 0)) : zc_I (zc_s (zc_a N 0 (N.1 1) v) 1 (N.1 1 + 1)) := by
  have hl := zc_len hI 0 (by decide)
  obtain ⟨i1, i2, i3, ⟨u, u1, u2⟩, i5, i6, i7, i8⟩ := hI
  rw [u1] at h
  have h9 : u < N.2.2.2 0 := z_lit (by omega) (by omega) h
  refine ⟨i1, i2, i3, ⟨u + 1, ?_, h9⟩, i5, i6, fun i => ?_, i8⟩
  · show N.1 1 + 1 = nI (u + 1)
    rw [u1, nI_1]
  · show fits .byte (.int (upd (N.2.1 0) (N.1 1).toNatClampNeg v i)) = true
    rw [zq_upd]
    split
    · exact hv
    · exact i7 i
theorem zi_append {N : zc_N} (hI : zc_I N) (v : Int32) : zc_I (zc_append N v) := by
  unfold zc_append
  dsimp only
  split
  · rename_i h9
    have h1 := (zc_cap0 hI h9.2).2
    split
    · rename_i h8
      exact zi_put0 h1 (z_byte8 v) h8
    · exact h1
  · split
    · rename_i h8
      exact zi_put0 hI (z_byte8 v) h8
    · exact hI
theorem zl_append {N : zc_N} (v : Int32) : zc_L N ≤ zc_L (zc_append N v) := by
  unfold zc_append
  dsimp only
  have h0 : zc_L N ≤ zc_L (zc_g N 0 (2 * N.2.2.2 0)) := by
    simp [zc_L]
    omega
  split
  · split
    · exact h0
    · exact h0
  · split
    · exact Nat.le_refl _
    · exact Nat.le_refl _
theorem zi_cutTo {N : zc_N} (hI : zc_I N) (n : Int32) : zc_I (zc_cutTo N n) := by
  unfold zc_cutTo
  split
  · exact hI
  · rename_i h9
    have hl := zc_len hI 60 (by decide)
    obtain ⟨i1, ⟨z, z1, z2⟩, i3⟩ := hI
    have h0 : ¬ n < 0 := fun z => h9 (Or.inl z)
    obtain ⟨j, hj, rfl⟩ := nI_of h0
    have h1 : ¬ nI z < nI j := fun q => h9 (Or.inr (by rw [z1]; exact q))
    have h2 : j ≤ z := by
      rcases Nat.lt_or_ge z j with q | q
      · exact absurd (nI_lt q hj) h1
      · exact q
    exact ⟨i1, ⟨j, rfl, by show j ≤ N.2.2.2 60; omega⟩, i3⟩
theorem zi_step {N : zc_N} (hI : zc_I N) : zc_I (zc_step N) := by
  unfold zc_step
  split
  · exact hI
  · exact hI
theorem zL_step {N : zc_N} : zc_L (zc_step N) = zc_L N := by
  unfold zc_step
  split <;> rfl
theorem zi_tell {N : zc_N} (hI : zc_I N) (w v : Int32) : zc_I (zc_tell N w v) := by
  unfold zc_tell
  split
  · exact hI
  · exact hI
theorem zL_tell {N : zc_N} {w v : Int32} : zc_L (zc_tell N w v) = zc_L N := by
  unfold zc_tell
  split <;> rfl
theorem zi_makeRoom {N : zc_N} (hI : zc_I N) (q : Int32) : zc_I (zc_makeRoom N q) := by
  unfold zc_makeRoom
  split
  · exact hI
  · rename_i h9
    split
    · rename_i h8
      exact (zc_cap60 hI h8 h9).2
    · exact hI
theorem zl_makeRoom {N : zc_N} (q : Int32) : zc_L N ≤ zc_L (zc_makeRoom N q) := by
  have h0 : zc_L N ≤ zc_L (zc_g N 60 (2 * N.2.2.2 60)) := by
    simp [zc_L]
    omega
  unfold zc_makeRoom
  split
  · exact Nat.le_refl _
  · split
    · exact h0
    · exact Nat.le_refl _
set_option maxHeartbeats 4000000 in
set_option maxRecDepth 100000 in
theorem kX7_next (l : Launch) (g : za_G) (E : za_E) (o d : Nat → Nat) (N : zc_N)  (hI : zc_I N) : za_Ci l g E yX7_next cX7_next 2 ((some .int)) 0 0 0 [.ref (o 6)] (zc_ws g o d N) (fun r (_ : Unit) => r = zk_next N) (fun _ => zc_ws g o d N) := by
  refine za_begin (by decide) (Nat.le_of_ble_eq_true rfl) RX7 rfl ?_
  intro p e s m args below meth co A ls Q H locs C hQ hr hlocks hnm hS hP hD hl
  obtain ⟨hx, hb, hml, hown, hts, hK, hA, hE⟩ := id C
  have hl : lv_has ls 2 [(0, .ref (o 6))] := hl
  refine lv_aload_n hx hb dX7_next_0 rfl (lv_at hl 0 rfl) ?_
  refine va_get (ci := 6) (v := .int (N.1 62)) hx hb hts iX7 hown hK hP 6 rfl rfl 2 (by decide) (hts _ w_96) (fun _ h9 => h9) rfl dX7_next_1 ?_
  refine lv_iconst (v := 1) hx hb dX7_next_4 (by decide) ?_
  refine lv_iadd hx hb dX7_next_5 ?_
  refine lv_istore_n (lv' := [(1, .int ((N.1 62) + 1)), (0, .ref (o 6))]) hx hb dX7_next_6 rfl hl (by decide) rfl (fun ls hl => ?_)
  refine lv_iload_n hx hb dX7_next_7 rfl (lv_at hl 0 rfl) ?_
  refine lv_if_lt (tgt := 41) hx hb dX7_next_8 (by decide) (fun c_8 => ?_) (fun c_8 => ?_)
  · refine lv_iconst (v := (-1)) hx hb dX7_next_41 (by decide) ?_
    exact zc_ri hQ hx hb hr hlocks hK hP hD hS rfl (by simp [zk_next, zq_upd, c_8]) (Nat.le_refl _) (Nat.le_refl _) dX7_next_42
  · refine lv_iload_n hx hb dX7_next_11 rfl (lv_at hl 0 rfl) ?_
    refine lv_aload_n hx hb dX7_next_12 rfl (lv_at hl 1 rfl) ?_
    refine va_get (ci := 6) (v := .int (N.1 61)) hx hb hts iX7 hown hK hP 6 rfl rfl 1 (by decide) (hts _ w_94) (fun _ h9 => h9) rfl dX7_next_13 ?_
    refine za_icmp_ge (tgt := 41) hx hb dX7_next_16 (by decide) (fun c_16 => ?_) (fun c_16 => ?_)
    · refine lv_iconst (v := (-1)) hx hb dX7_next_41 (by decide) ?_
      exact zc_ri hQ hx hb hr hlocks hK hP hD hS rfl (by simp [zk_next, zq_upd, c_8, c_16]) (Nat.le_refl _) (Nat.le_refl _) dX7_next_42
    · refine lv_iload_n hx hb dX7_next_19 rfl (lv_at hl 0 rfl) ?_
      refine lv_aload_n hx hb dX7_next_20 rfl (lv_at hl 1 rfl) ?_
      refine va_get (ci := 6) (v := .ref (d 60)) hx hb hts iX7 hown hK hP 6 rfl rfl 0 (by decide) (hts _ w_93) (fun _ h9 => h9) rfl dX7_next_21 ?_
      refine va_alen (v := nI (N.2.2.2 60)) hx hb hK hP 15 0 rfl rfl rfl dX7_next_24 ?_
      refine za_icmp_ge (tgt := 41) hx hb dX7_next_25 (by decide) (fun c_25 => ?_) (fun c_25 => ?_)
      · exact absurd (zk_inlt (by obtain ⟨z, hz1, hz2⟩ := hI.2.1; rw [hz1] at c_16; exact zk_in c_8 c_16 hz2 (by have := (zc_len hI 60 (by decide)).2; omega)) (by have := (zc_len hI 60 (by decide)).2; omega)) c_25
      · refine lv_aload_n hx hb dX7_next_28 rfl (lv_at hl 1 rfl) ?_
        refine va_get (ci := 6) (v := .ref (d 60)) hx hb hts iX7 hown hK hP 6 rfl rfl 0 (by decide) (hts _ w_93) (fun _ h9 => h9) rfl dX7_next_29 ?_
        refine lv_iload_n hx hb dX7_next_32 rfl (lv_at hl 0 rfl) ?_
        refine va_bald (f := N.2.1 60) hx hb hK hP 15 0 rfl rfl (by obtain ⟨z, hz1, hz2⟩ := hI.2.1; rw [hz1] at c_16; exact zk_in c_8 c_16 hz2 (by have := (zc_len hI 60 (by decide)).2; omega)) dX7_next_33 ?_
        refine lv_sipush (v := 255) hx hb dX7_next_34 (by decide) ?_
        refine lv_iand hx hb dX7_next_37 ?_
        refine lv_goto (tgt := 42) hx hb dX7_next_38 (by decide) ?_
        exact zc_ri hQ hx hb hr hlocks hK hP hD hS rfl (by simp [zk_next, zq_upd, c_8, c_16, c_25]) (Nat.le_refl _) (Nat.le_refl _) dX7_next_42
set_option maxHeartbeats 4000000 in
set_option maxRecDepth 100000 in
theorem kX7_step (l : Launch) (g : za_G) (E : za_E) (o d : Nat → Nat) (N : zc_N)  (hI : zc_I N) : za_Cv l g E yX7_step cX7_step 1 1 0 0 [.ref (o 6)] (zc_ws g o d N) (fun u : zc_N => u = zc_step N) (fun u => zc_ws g o d u) := by
  refine za_begin (by decide) (Nat.le_of_ble_eq_true rfl) RX7 rfl ?_
  intro p e s m args below meth co A ls Q H locs C hQ hr hlocks hnm hS hP hD hl
  obtain ⟨hx, hb, hml, hown, hts, hK, hA, hE⟩ := id C
  have hl : lv_has ls 1 [(0, .ref (o 6))] := hl
  have hI0 := hI
  refine lv_aload_n hx hb dX7_step_0 rfl (lv_at hl 0 rfl) ?_
  refine za_ci (wc := zc_ws g o d N) (wr := []) C hP hD hS [0, 1, 2, 3, 4, 5, 6, 7, 8, 9, 10, 11, 12, 13, 14, 15, 16] [] rfl rfl (by decide) (by decide) (za_runV C hP hD hS [0, 1, 2, 3, 4, 5, 6, 7, 8, 9, 10, 11, 12, 13, 14, 15, 16] rfl (by decide) rfl (kX7_here l g E o d N  hI ) w_397 mX7_here 6 rfl rfl rfl rfl hl.1 rfl (Nat.le_of_ble_eq_true rfl) dX7_step_1 ⟨Nat.le_of_ble_eq_true rfl, Nat.le_of_ble_eq_true rfl⟩ ⟨Nat.le_refl _, Nat.le_refl _⟩) (fun r1 _ H locs hr1 hP hD hS => ?_)
  subst hr1
  have hP : va_P g.1 vwCl (zc_ws g o d N) H := hP
  have hD : va_D A (zc_ws g o d N) := hD
  refine lv_bipush (v := 10) hx hb dX7_step_4 (by decide) ?_
  refine lv_icmp_ne (tgt := 29) hx hb dX7_step_6 (by decide) (fun c_6 => ?_) (fun c_6 => ?_)
  · refine lv_aload_n hx hb dX7_step_29 rfl (lv_at hl 0 rfl) ?_
    refine lv_dup hx hb dX7_step_30 rfl ?_
    refine va_get (ci := 6) (v := .int (N.1 62)) hx hb hts iX7 hown hK hP 6 rfl rfl 2 (by decide) (hts _ w_96) (fun _ h9 => h9) rfl dX7_step_31 ?_
    refine lv_iconst (v := 1) hx hb dX7_step_34 (by decide) ?_
    refine lv_iadd hx hb dX7_step_35 ?_
    refine va_put (ci := 6) (fs := zc_f6 o d N.1) (v := .int ((N.1 62) + 1)) hx hb hts iX7 tyX7 tyX7_ok nmX7 hown hK hP hD hS 6 rfl rfl 2 (by decide) (hts _ w_96) (fun _ h9 => h9) rfl (tyX7_ok 2 (by decide)) rfl rfl (Nat.le_of_ble_eq_true rfl) dX7_step_36 (fun H locs hP hD hS => ?_)
    have hP := zc_pf62 (X := N) hP
    have hD := zc_df62 (X := N) hD
    have hI : zc_I (zc_s N 62 ((N.1 62) + 1)) := hI
    exact zc_rv hQ hx hb hr hlocks hK hP hD hS (by unfold zc_step; rw [if_neg (fun h9 => c_6 ((zk_here10 hI0).mpr h9))]) (Nat.le_refl _) (Nat.le_refl _) dX7_step_39
  · refine lv_aload_n hx hb dX7_step_9 rfl (lv_at hl 0 rfl) ?_
    refine lv_dup hx hb dX7_step_10 rfl ?_
    refine va_get (ci := 6) (v := .int (N.1 63)) hx hb hts iX7 hown hK hP 6 rfl rfl 3 (by decide) (hts _ w_98) (fun _ h9 => h9) rfl dX7_step_11 ?_
    refine lv_iconst (v := 1) hx hb dX7_step_14 (by decide) ?_
    refine lv_iadd hx hb dX7_step_15 ?_
    refine va_put (ci := 6) (fs := zc_f6 o d N.1) (v := .int ((N.1 63) + 1)) hx hb hts iX7 tyX7 tyX7_ok nmX7 hown hK hP hD hS 6 rfl rfl 3 (by decide) (hts _ w_98) (fun _ h9 => h9) rfl (tyX7_ok 3 (by decide)) rfl rfl (Nat.le_of_ble_eq_true rfl) dX7_step_16 (fun H locs hP hD hS => ?_)
    have hP := zc_pf63 (X := N) hP
    have hD := zc_df63 (X := N) hD
    have hI : zc_I (zc_s N 63 ((N.1 63) + 1)) := hI
    refine lv_aload_n hx hb dX7_step_19 rfl (lv_at hl 0 rfl) ?_
    refine lv_aload_n hx hb dX7_step_20 rfl (lv_at hl 0 rfl) ?_
    refine va_get (ci := 6) (v := .int (N.1 62)) hx hb hts iX7 hown hK hP 6 rfl rfl 2 (by decide) (hts _ w_96) (fun _ h9 => h9) rfl dX7_step_21 ?_
    refine lv_iconst (v := 1) hx hb dX7_step_24 (by decide) ?_
    refine lv_iadd hx hb dX7_step_25 ?_
    refine va_put (ci := 6) (fs := zc_f6 o d (zc_s N 63 ((N.1 63) + 1)).1) (v := .int ((N.1 62) + 1)) hx hb hts iX7 tyX7 tyX7_ok nmX7 hown hK hP hD hS 6 rfl rfl 4 (by decide) (hts _ w_100) (fun _ h9 => h9) rfl (tyX7_ok 4 (by decide)) rfl rfl (Nat.le_of_ble_eq_true rfl) dX7_step_26 (fun H locs hP hD hS => ?_)
    have hP := zc_pf64 (X := zc_s N 63 ((N.1 63) + 1)) hP
    have hD := zc_df64 (X := zc_s N 63 ((N.1 63) + 1)) hD
    have hI : zc_I (zc_s (zc_s N 63 ((N.1 63) + 1)) 64 ((N.1 62) + 1)) := hI
    refine lv_aload_n hx hb dX7_step_29 rfl (lv_at hl 0 rfl) ?_
    refine lv_dup hx hb dX7_step_30 rfl ?_
    refine va_get (ci := 6) (v := .int (N.1 62)) hx hb hts iX7 hown hK hP 6 rfl rfl 2 (by decide) (hts _ w_96) (fun _ h9 => h9) rfl dX7_step_31 ?_
    refine lv_iconst (v := 1) hx hb dX7_step_34 (by decide) ?_
    refine lv_iadd hx hb dX7_step_35 ?_
    refine va_put (ci := 6) (fs := zc_f6 o d (zc_s (zc_s N 63 ((N.1 63) + 1)) 64 ((N.1 62) + 1)).1) (v := .int ((N.1 62) + 1)) hx hb hts iX7 tyX7 tyX7_ok nmX7 hown hK hP hD hS 6 rfl rfl 2 (by decide) (hts _ w_96) (fun _ h9 => h9) rfl (tyX7_ok 2 (by decide)) rfl rfl (Nat.le_of_ble_eq_true rfl) dX7_step_36 (fun H locs hP hD hS => ?_)
    have hP := zc_pf62 (X := zc_s (zc_s N 63 ((N.1 63) + 1)) 64 ((N.1 62) + 1)) hP
    have hD := zc_df62 (X := zc_s (zc_s N 63 ((N.1 63) + 1)) 64 ((N.1 62) + 1)) hD
    have hI : zc_I (zc_s (zc_s (zc_s N 63 ((N.1 63) + 1)) 64 ((N.1 62) + 1)) 62 ((N.1 62) + 1)) := hI
    exact zc_rv hQ hx hb hr hlocks hK hP hD hS (by unfold zc_step; rw [if_pos ((zk_here10 hI0).mp c_6)]) (Nat.le_refl _) (Nat.le_refl _) dX7_step_39
set_option maxHeartbeats 4000000 in
set_option maxRecDepth 100000 in
theorem kX7_cutTo (l : Launch) (g : za_G) (E : za_E) (o d : Nat → Nat) (N : zc_N) (n : Int32) (hI : zc_I N) : za_Ci l g E yX7_cutTo cX7_cutTo 2 ((some .boolean)) 0 0 0 [.ref (o 6), .int n] (zc_ws g o d N) (fun r (u : zc_N) => r = zk_cutTo N n ∧ u = zc_cutTo N n) (fun u => zc_ws g o d u) := by
  refine za_begin (by decide) (Nat.le_of_ble_eq_true rfl) RX7 rfl ?_
  intro p e s m args below meth co A ls Q H locs C hQ hr hlocks hnm hS hP hD hl
  obtain ⟨hx, hb, hml, hown, hts, hK, hA, hE⟩ := id C
  have hl : lv_has ls 2 [(0, .ref (o 6)), (1, .int n)] := hl
  refine lv_iload_n hx hb dX7_cutTo_0 rfl (lv_at hl 1 rfl) ?_
  refine lv_if_lt (tgt := 12) hx hb dX7_cutTo_1 (by decide) (fun c_1 => ?_) (fun c_1 => ?_)
  · refine lv_iconst (v := 0) hx hb dX7_cutTo_12 (by decide) ?_
    exact zc_riw hQ hx hb hr hlocks hK hP hD hS rfl (by simp [zk_cutTo, zc_cutTo, zq_upd, c_1]) (by simp [zk_cutTo, zc_cutTo, zq_upd, c_1]) (Nat.le_refl _) (Nat.le_refl _) dX7_cutTo_13
  · refine lv_iload_n hx hb dX7_cutTo_4 rfl (lv_at hl 1 rfl) ?_
    refine lv_aload_n hx hb dX7_cutTo_5 rfl (lv_at hl 0 rfl) ?_
    refine va_get (ci := 6) (v := .int (N.1 61)) hx hb hts iX7 hown hK hP 6 rfl rfl 1 (by decide) (hts _ w_94) (fun _ h9 => h9) rfl dX7_cutTo_6 ?_
    refine za_icmp_le (tgt := 14) hx hb dX7_cutTo_9 (by decide) (fun c_9 => ?_) (fun c_9 => ?_)
    · refine lv_aload_n hx hb dX7_cutTo_14 rfl (lv_at hl 0 rfl) ?_
      refine lv_iload_n hx hb dX7_cutTo_15 rfl (lv_at hl 1 rfl) ?_
      refine va_put (ci := 6) (fs := zc_f6 o d N.1) (v := .int n) hx hb hts iX7 tyX7 tyX7_ok nmX7 hown hK hP hD hS 6 rfl rfl 1 (by decide) (hts _ w_94) (fun _ h9 => h9) rfl (tyX7_ok 1 (by decide)) rfl rfl (Nat.le_of_ble_eq_true rfl) dX7_cutTo_16 (fun H locs hP hD hS => ?_)
      have hP := zc_pf61 (X := N) hP
      have hD := zc_df61 (X := N) hD
      refine lv_iconst (v := 1) hx hb dX7_cutTo_19 (by decide) ?_
      exact zc_riw hQ hx hb hr hlocks hK hP hD hS rfl (by simp [zk_cutTo, zc_cutTo, zq_upd, c_1, c_9]) (by simp [zk_cutTo, zc_cutTo, zq_upd, c_1, c_9]) (Nat.le_refl _) (Nat.le_refl _) dX7_cutTo_20
    · refine lv_iconst (v := 0) hx hb dX7_cutTo_12 (by decide) ?_
      exact zc_riw hQ hx hb hr hlocks hK hP hD hS rfl (by simp [zk_cutTo, zc_cutTo, zq_upd, c_1, c_9]) (by simp [zk_cutTo, zc_cutTo, zq_upd, c_1, c_9]) (Nat.le_refl _) (Nat.le_refl _) dX7_cutTo_13
set_option maxHeartbeats 4000000 in
set_option maxRecDepth 100000 in
theorem kX8_has (l : Launch) (g : za_G) (E : za_E) (o d : Nat → Nat) (N : zc_N) (k : Int32) (hI : zc_I N) : za_Ci l g E yX8_has cX8_has 2 ((some .boolean)) 0 0 0 [.ref (o 7), .int k] (zc_ws g o d N) (fun r (_ : Unit) => r = zk_has N k) (fun _ => zc_ws g o d N) := by
  refine za_begin (by decide) (Nat.le_of_ble_eq_true rfl) RX8 rfl ?_
  intro p e s m args below meth co A ls Q H locs C hQ hr hlocks hnm hS hP hD hl
  obtain ⟨hx, hb, hml, hown, hts, hK, hA, hE⟩ := id C
  have hl : lv_has ls 2 [(0, .ref (o 7)), (1, .int k)] := hl
  refine lv_iload_n hx hb dX8_has_0 rfl (lv_at hl 1 rfl) ?_
  refine lv_if_lt (tgt := 16) hx hb dX8_has_1 (by decide) (fun c_1 => ?_) (fun c_1 => ?_)
  · refine lv_iconst (v := 0) hx hb dX8_has_16 (by decide) ?_
    exact zc_ri hQ hx hb hr hlocks hK hP hD hS rfl (by simp [zk_has, zq_upd, c_1]) (Nat.le_refl _) (Nat.le_refl _) dX8_has_17
  · refine lv_iload_n hx hb dX8_has_4 rfl (lv_at hl 1 rfl) ?_
    refine lv_aload_n hx hb dX8_has_5 rfl (lv_at hl 0 rfl) ?_
    refine va_get (ci := 7) (v := .int (N.1 71)) hx hb hts iX8 hown hK hP 7 rfl rfl 1 (by decide) (hts _ w_168) (fun _ h9 => h9) rfl dX8_has_6 ?_
    refine za_icmp_ge (tgt := 16) hx hb dX8_has_9 (by decide) (fun c_9 => ?_) (fun c_9 => ?_)
    · refine lv_iconst (v := 0) hx hb dX8_has_16 (by decide) ?_
      exact zc_ri hQ hx hb hr hlocks hK hP hD hS rfl (by simp [zk_has, zq_upd, c_1, c_9]) (Nat.le_refl _) (Nat.le_refl _) dX8_has_17
    · refine lv_iconst (v := 1) hx hb dX8_has_12 (by decide) ?_
      refine lv_goto (tgt := 17) hx hb dX8_has_13 (by decide) ?_
      exact zc_ri hQ hx hb hr hlocks hK hP hD hS rfl (by simp [zk_has, zq_upd, c_1, c_9]) (Nat.le_refl _) (Nat.le_refl _) dX8_has_17
set_option maxHeartbeats 4000000 in
set_option maxRecDepth 100000 in
theorem kX8_isFull (l : Launch) (g : za_G) (E : za_E) (o d : Nat → Nat) (N : zc_N)  (hI : zc_I N) : za_Ci l g E yX8_isFull cX8_isFull 1 ((some .boolean)) 0 0 0 [.ref (o 7)] (zc_ws g o d N) (fun r (_ : Unit) => r = zk_isFull N) (fun _ => zc_ws g o d N) := by
  refine za_begin (by decide) (Nat.le_of_ble_eq_true rfl) RX8 rfl ?_
  intro p e s m args below meth co A ls Q H locs C hQ hr hlocks hnm hS hP hD hl
  obtain ⟨hx, hb, hml, hown, hts, hK, hA, hE⟩ := id C
  have hl : lv_has ls 1 [(0, .ref (o 7))] := hl
  refine lv_aload_n hx hb dX8_isFull_0 rfl (lv_at hl 0 rfl) ?_
  refine va_get (ci := 7) (v := .int (N.1 71)) hx hb hts iX8 hown hK hP 7 rfl rfl 1 (by decide) (hts _ w_168) (fun _ h9 => h9) rfl dX8_isFull_1 ?_
  refine lv_sipush (v := 16384) hx hb dX8_isFull_4 (by decide) ?_
  refine lv_icmp_lt (tgt := 14) hx hb dX8_isFull_7 (by decide) (fun c_7 => ?_) (fun c_7 => ?_)
  · refine lv_iconst (v := 0) hx hb dX8_isFull_14 (by decide) ?_
    exact zc_ri hQ hx hb hr hlocks hK hP hD hS rfl (by simp [zk_isFull, zq_upd, c_7]) (Nat.le_refl _) (Nat.le_refl _) dX8_isFull_15
  · refine lv_iconst (v := 1) hx hb dX8_isFull_10 (by decide) ?_
    refine lv_goto (tgt := 15) hx hb dX8_isFull_11 (by decide) ?_
    exact zc_ri hQ hx hb hr hlocks hK hP hD hS rfl (by simp [zk_isFull, zq_upd, c_7]) (Nat.le_refl _) (Nat.le_refl _) dX8_isFull_15
set_option maxHeartbeats 4000000 in
set_option maxRecDepth 100000 in
theorem kX8_fact (l : Launch) (g : za_G) (E : za_E) (o d : Nat → Nat) (N : zc_N) (k w : Int32) (hI : zc_I N) : za_Ci l g E yX8_fact cX8_fact 4 ((some .int)) 1 0 0 [.ref (o 7), .int k, .int w] (zc_ws g o d N) (fun r (_ : Unit) => r = zk_fact N k w) (fun _ => zc_ws g o d N) := by
  refine za_begin (by decide) (Nat.le_of_ble_eq_true rfl) RX8 rfl ?_
  intro p e s m args below meth co A ls Q H locs C hQ hr hlocks hnm hS hP hD hl
  obtain ⟨hx, hb, hml, hown, hts, hK, hA, hE⟩ := id C
  have hl : lv_has ls 4 [(0, .ref (o 7)), (1, .int k), (2, .int w)] := hl
  refine lv_aload_n hx hb dX8_fact_0 rfl (lv_at hl 0 rfl) ?_
  refine lv_iload_n hx hb dX8_fact_1 rfl (lv_at hl 1 rfl) ?_
  refine za_ci (wc := zc_ws g o d N) (wr := []) C hP hD hS [0, 1, 2, 3, 4, 5, 6, 7, 8, 9, 10, 11, 12, 13, 14, 15, 16] [] rfl rfl (by decide) (by decide) (za_runV C hP hD hS [0, 1, 2, 3, 4, 5, 6, 7, 8, 9, 10, 11, 12, 13, 14, 15, 16] rfl (by decide) rfl (kX8_has l g E o d N k hI ) w_526 mX8_has 7 rfl rfl rfl rfl hl.1 rfl (Nat.le_of_ble_eq_true rfl) dX8_fact_2 ⟨Nat.le_of_ble_eq_true rfl, Nat.le_of_ble_eq_true rfl⟩ ⟨Nat.le_refl _, Nat.le_refl _⟩) (fun r1 _ H locs hr1 hP hD hS => ?_)
  subst hr1
  have hP : va_P g.1 vwCl (zc_ws g o d N) H := hP
  have hD : va_D A (zc_ws g o d N) := hD
  refine lv_if_eq (tgt := 18) hx hb dX8_fact_5 (by decide) (fun c_5 => ?_) (fun c_5 => ?_)
  · refine lv_iconst (v := (-1)) hx hb dX8_fact_18 (by decide) ?_
    exact zc_ri hQ hx hb hr hlocks hK hP hD hS rfl (by simp [zk_fact, zq_upd, eq_true c_5]) (Nat.le_refl _) (Nat.le_refl _) dX8_fact_19
  · refine lv_iload_n hx hb dX8_fact_8 rfl (lv_at hl 2 rfl) ?_
    refine lv_if_lt (tgt := 18) hx hb dX8_fact_9 (by decide) (fun c_9 => ?_) (fun c_9 => ?_)
    · refine lv_iconst (v := (-1)) hx hb dX8_fact_18 (by decide) ?_
      exact zc_ri hQ hx hb hr hlocks hK hP hD hS rfl (by simp [zk_fact, zq_upd, c_5, c_9]) (Nat.le_refl _) (Nat.le_refl _) dX8_fact_19
    · refine lv_iload_n hx hb dX8_fact_12 rfl (lv_at hl 2 rfl) ?_
      refine lv_bipush (v := 11) hx hb dX8_fact_13 (by decide) ?_
      refine lv_icmp_lt (tgt := 20) hx hb dX8_fact_15 (by decide) (fun c_15 => ?_) (fun c_15 => ?_)
      · refine lv_iload_n hx hb dX8_fact_20 rfl (lv_at hl 1 rfl) ?_
        refine lv_bipush (v := 11) hx hb dX8_fact_21 (by decide) ?_
        refine lv_imul hx hb dX8_fact_23 ?_
        refine lv_iload_n hx hb dX8_fact_24 rfl (lv_at hl 2 rfl) ?_
        refine lv_iadd hx hb dX8_fact_25 ?_
        refine lv_istore_n (lv' := [(3, .int ((k * 11) + w)), (0, .ref (o 7)), (1, .int k), (2, .int w)]) hx hb dX8_fact_26 rfl hl (by decide) rfl (fun ls hl => ?_)
        refine lv_iload_n hx hb dX8_fact_27 rfl (lv_at hl 0 rfl) ?_
        refine lv_if_lt (tgt := 49) hx hb dX8_fact_28 (by decide) (fun c_28 => ?_) (fun c_28 => ?_)
        · exact absurd (Or.inl c_28) (z_fact_in hI c_5 c_9 c_15)
        · refine lv_iload_n hx hb dX8_fact_31 rfl (lv_at hl 0 rfl) ?_
          refine lv_aload_n hx hb dX8_fact_32 rfl (lv_at hl 1 rfl) ?_
          refine va_get (ci := 7) (v := .ref (d 70)) hx hb hts iX8 hown hK hP 7 rfl rfl 0 (by decide) (hts _ w_167) (fun _ h9 => h9) rfl dX8_fact_33 ?_
          refine va_alen (v := nI (N.2.2.2 70)) hx hb hK hP 16 1 rfl rfl rfl dX8_fact_36 ?_
          refine za_icmp_ge (tgt := 49) hx hb dX8_fact_37 (by decide) (fun c_37 => ?_) (fun c_37 => ?_)
          · exact absurd (zk_inlt (z_fact_in hI c_5 c_9 c_15) (by have := (zc_len hI 70 (by decide)).2; omega)) c_37
          · refine lv_aload_n hx hb dX8_fact_40 rfl (lv_at hl 1 rfl) ?_
            refine va_get (ci := 7) (v := .ref (d 70)) hx hb hts iX8 hown hK hP 7 rfl rfl 0 (by decide) (hts _ w_167) (fun _ h9 => h9) rfl dX8_fact_41 ?_
            refine lv_iload_n hx hb dX8_fact_44 rfl (lv_at hl 0 rfl) ?_
            refine va_iald (f := N.2.1 70) hx hb hK hP 16 1 rfl rfl (z_fact_in hI c_5 c_9 c_15) dX8_fact_45 ?_
            refine lv_goto (tgt := 50) hx hb dX8_fact_46 (by decide) ?_
            exact zc_ri hQ hx hb hr hlocks hK hP hD hS rfl (by simp [zk_fact, zq_upd, c_5, c_9, c_15, c_28, c_37]) (Nat.le_refl _) (Nat.le_refl _) dX8_fact_50
      · refine lv_iconst (v := (-1)) hx hb dX8_fact_18 (by decide) ?_
        exact zc_ri hQ hx hb hr hlocks hK hP hD hS rfl (by simp [zk_fact, zq_upd, c_5, c_9, c_15]) (Nat.le_refl _) (Nat.le_refl _) dX8_fact_19
set_option maxHeartbeats 4000000 in
set_option maxRecDepth 100000 in
theorem kX8_kindOf (l : Launch) (g : za_G) (E : za_E) (o d : Nat → Nat) (N : zc_N) (k : Int32) (hI : zc_I N) : za_Ci l g E yX8_kindOf cX8_kindOf 2 ((some .int)) 2 0 0 [.ref (o 7), .int k] (zc_ws g o d N) (fun r (_ : Unit) => r = zk_fact N k 0) (fun _ => zc_ws g o d N) := by
  refine za_begin (by decide) (Nat.le_of_ble_eq_true rfl) RX8 rfl ?_
  intro p e s m args below meth co A ls Q H locs C hQ hr hlocks hnm hS hP hD hl
  obtain ⟨hx, hb, hml, hown, hts, hK, hA, hE⟩ := id C
  have hl : lv_has ls 2 [(0, .ref (o 7)), (1, .int k)] := hl
  refine lv_aload_n hx hb dX8_kindOf_0 rfl (lv_at hl 0 rfl) ?_
  refine lv_iload_n hx hb dX8_kindOf_1 rfl (lv_at hl 1 rfl) ?_
  refine lv_iconst (v := 0) hx hb dX8_kindOf_2 (by decide) ?_
  refine za_ci (wc := zc_ws g o d N) (wr := []) C hP hD hS [0, 1, 2, 3, 4, 5, 6, 7, 8, 9, 10, 11, 12, 13, 14, 15, 16] [] rfl rfl (by decide) (by decide) (za_runV C hP hD hS [0, 1, 2, 3, 4, 5, 6, 7, 8, 9, 10, 11, 12, 13, 14, 15, 16] rfl (by decide) rfl (kX8_fact l g E o d N k 0 hI ) w_757 mX8_fact 7 rfl rfl rfl rfl hl.1 rfl (Nat.le_of_ble_eq_true rfl) dX8_kindOf_3 ⟨Nat.le_of_ble_eq_true rfl, Nat.le_of_ble_eq_true rfl⟩ ⟨Nat.le_refl _, Nat.le_refl _⟩) (fun r1 _ H locs hr1 hP hD hS => ?_)
  subst hr1
  have hP : va_P g.1 vwCl (zc_ws g o d N) H := hP
  have hD : va_D A (zc_ws g o d N) := hD
  exact zc_ri hQ hx hb hr hlocks hK hP hD hS rfl (by first | rfl | simp [zq_upd]) (Nat.le_refl _) (Nat.le_refl _) dX8_kindOf_6
set_option maxHeartbeats 4000000 in
set_option maxRecDepth 100000 in
theorem kX0_byteAt (l : Launch) (g : za_G) (E : za_E) (o d : Nat → Nat) (N : zc_N) (q : Int32) (hI : zc_I N) : za_Ci l g E yX0_byteAt cX0_byteAt 2 ((some .int)) 0 0 0 [.ref (o 0), .int q] (zc_ws g o d N) (fun r (_ : Unit) => r = zk_byteAt N q) (fun _ => zc_ws g o d N) := by
  refine za_begin (by decide) (Nat.le_of_ble_eq_true rfl) RX0 rfl ?_
  intro p e s m args below meth co A ls Q H locs C hQ hr hlocks hnm hS hP hD hl
  obtain ⟨hx, hb, hml, hown, hts, hK, hA, hE⟩ := id C
  have hl : lv_has ls 2 [(0, .ref (o 0)), (1, .int q)] := hl
  refine lv_iload_n hx hb dX0_byteAt_0 rfl (lv_at hl 1 rfl) ?_
  refine lv_if_lt (tgt := 34) hx hb dX0_byteAt_1 (by decide) (fun c_1 => ?_) (fun c_1 => ?_)
  · refine lv_iconst (v := (-1)) hx hb dX0_byteAt_34 (by decide) ?_
    exact zc_ri hQ hx hb hr hlocks hK hP hD hS rfl (by simp [zk_byteAt, zq_upd, c_1]) (Nat.le_refl _) (Nat.le_refl _) dX0_byteAt_35
  · refine lv_iload_n hx hb dX0_byteAt_4 rfl (lv_at hl 1 rfl) ?_
    refine lv_aload_n hx hb dX0_byteAt_5 rfl (lv_at hl 0 rfl) ?_
    refine va_get (ci := 0) (v := .int (N.1 1)) hx hb hts iX0 hown hK hP 0 rfl rfl 1 (by decide) (hts _ w_131) (fun _ h9 => h9) rfl dX0_byteAt_6 ?_
    refine za_icmp_ge (tgt := 34) hx hb dX0_byteAt_9 (by decide) (fun c_9 => ?_) (fun c_9 => ?_)
    · refine lv_iconst (v := (-1)) hx hb dX0_byteAt_34 (by decide) ?_
      exact zc_ri hQ hx hb hr hlocks hK hP hD hS rfl (by simp [zk_byteAt, zq_upd, c_1, c_9]) (Nat.le_refl _) (Nat.le_refl _) dX0_byteAt_35
    · refine lv_iload_n hx hb dX0_byteAt_12 rfl (lv_at hl 1 rfl) ?_
      refine lv_aload_n hx hb dX0_byteAt_13 rfl (lv_at hl 0 rfl) ?_
      refine va_get (ci := 0) (v := .ref (d 0)) hx hb hts iX0 hown hK hP 0 rfl rfl 0 (by decide) (hts _ w_130) (fun _ h9 => h9) rfl dX0_byteAt_14 ?_
      refine va_alen (v := nI (N.2.2.2 0)) hx hb hK hP 9 0 rfl rfl rfl dX0_byteAt_17 ?_
      refine za_icmp_ge (tgt := 34) hx hb dX0_byteAt_18 (by decide) (fun c_18 => ?_) (fun c_18 => ?_)
      · exact absurd (zk_inlt (by obtain ⟨u, hu1, hu2⟩ := hI.2.2.2.1; rw [hu1] at c_9; exact zk_in c_1 c_9 hu2 (by have := (zc_len hI 0 (by decide)).2; omega)) (by have := (zc_len hI 0 (by decide)).2; omega)) c_18
      · refine lv_aload_n hx hb dX0_byteAt_21 rfl (lv_at hl 0 rfl) ?_
        refine va_get (ci := 0) (v := .ref (d 0)) hx hb hts iX0 hown hK hP 0 rfl rfl 0 (by decide) (hts _ w_130) (fun _ h9 => h9) rfl dX0_byteAt_22 ?_
        refine lv_iload_n hx hb dX0_byteAt_25 rfl (lv_at hl 1 rfl) ?_
        refine va_bald (f := N.2.1 0) hx hb hK hP 9 0 rfl rfl (by obtain ⟨u, hu1, hu2⟩ := hI.2.2.2.1; rw [hu1] at c_9; exact zk_in c_1 c_9 hu2 (by have := (zc_len hI 0 (by decide)).2; omega)) dX0_byteAt_26 ?_
        refine lv_sipush (v := 255) hx hb dX0_byteAt_27 (by decide) ?_
        refine lv_iand hx hb dX0_byteAt_30 ?_
        refine lv_goto (tgt := 35) hx hb dX0_byteAt_31 (by decide) ?_
        exact zc_ri hQ hx hb hr hlocks hK hP hD hS rfl (by simp [zk_byteAt, zq_upd, c_1, c_9, c_18]) (Nat.le_refl _) (Nat.le_refl _) dX0_byteAt_35
set_option maxHeartbeats 4000000 in
set_option maxRecDepth 100000 in
theorem kX2_firstToken (l : Launch) (g : za_G) (E : za_E) (o d : Nat → Nat) (N : zc_N) (n : Int32) (hI : zc_I N) : za_Ci l g E yX2_firstToken cX2_firstToken 2 ((some .int)) 0 0 0 [.ref (o 2), .int n] (zc_ws g o d N) (fun r (_ : Unit) => r = zk_first N n) (fun _ => zc_ws g o d N) := by
  refine za_begin (by decide) (Nat.le_of_ble_eq_true rfl) RX2 rfl ?_
  intro p e s m args below meth co A ls Q H locs C hQ hr hlocks hnm hS hP hD hl
  obtain ⟨hx, hb, hml, hown, hts, hK, hA, hE⟩ := id C
  have hl : lv_has ls 2 [(0, .ref (o 2)), (1, .int n)] := hl
  refine lv_iload_n hx hb dX2_firstToken_0 rfl (lv_at hl 1 rfl) ?_
  refine lv_if_lt (tgt := 30) hx hb dX2_firstToken_1 (by decide) (fun c_1 => ?_) (fun c_1 => ?_)
  · refine lv_iconst (v := (-1)) hx hb dX2_firstToken_30 (by decide) ?_
    exact zc_ri hQ hx hb hr hlocks hK hP hD hS rfl (by simp [zk_first, zq_upd, c_1]) (Nat.le_refl _) (Nat.le_refl _) dX2_firstToken_31
  · refine lv_iload_n hx hb dX2_firstToken_4 rfl (lv_at hl 1 rfl) ?_
    refine lv_aload_n hx hb dX2_firstToken_5 rfl (lv_at hl 0 rfl) ?_
    refine va_get (ci := 2) (v := .int (N.1 24)) hx hb hts iX2 hown hK hP 2 rfl rfl 4 (by decide) (hts _ w_154) (fun _ h9 => h9) rfl dX2_firstToken_6 ?_
    refine za_icmp_ge (tgt := 30) hx hb dX2_firstToken_9 (by decide) (fun c_9 => ?_) (fun c_9 => ?_)
    · refine lv_iconst (v := (-1)) hx hb dX2_firstToken_30 (by decide) ?_
      exact zc_ri hQ hx hb hr hlocks hK hP hD hS rfl (by simp [zk_first, zq_upd, c_1, c_9]) (Nat.le_refl _) (Nat.le_refl _) dX2_firstToken_31
    · refine lv_iload_n hx hb dX2_firstToken_12 rfl (lv_at hl 1 rfl) ?_
      refine lv_aload_n hx hb dX2_firstToken_13 rfl (lv_at hl 0 rfl) ?_
      refine va_get (ci := 2) (v := .ref (d 23)) hx hb hts iX2 hown hK hP 2 rfl rfl 3 (by decide) (hts _ w_153) (fun _ h9 => h9) rfl dX2_firstToken_14 ?_
      refine va_alen (v := nI (N.2.2.2 23)) hx hb hK hP 14 1 rfl rfl rfl dX2_firstToken_17 ?_
      refine za_icmp_ge (tgt := 30) hx hb dX2_firstToken_18 (by decide) (fun c_18 => ?_) (fun c_18 => ?_)
      · refine lv_iconst (v := (-1)) hx hb dX2_firstToken_30 (by decide) ?_
        exact zc_ri hQ hx hb hr hlocks hK hP hD hS rfl (by simp [zk_first, zq_upd, c_1, c_9, c_18]) (Nat.le_refl _) (Nat.le_refl _) dX2_firstToken_31
      · refine lv_aload_n hx hb dX2_firstToken_21 rfl (lv_at hl 0 rfl) ?_
        refine va_get (ci := 2) (v := .ref (d 23)) hx hb hts iX2 hown hK hP 2 rfl rfl 3 (by decide) (hts _ w_153) (fun _ h9 => h9) rfl dX2_firstToken_22 ?_
        refine lv_iload_n hx hb dX2_firstToken_25 rfl (lv_at hl 1 rfl) ?_
        refine va_iald (f := N.2.1 23) hx hb hK hP 14 1 rfl rfl (zk_in c_1 c_18 (Nat.le_refl _) (by have := (zc_len hI 23 (by decide)).2; omega)) dX2_firstToken_26 ?_
        refine lv_goto (tgt := 31) hx hb dX2_firstToken_27 (by decide) ?_
        exact zc_ri hQ hx hb hr hlocks hK hP hD hS rfl (by simp [zk_first, zq_upd, c_1, c_9, c_18]) (Nat.le_refl _) (Nat.le_refl _) dX2_firstToken_31
set_option maxHeartbeats 4000000 in
set_option maxRecDepth 100000 in
theorem kX8_tellLast (l : Launch) (g : za_G) (E : za_E) (o d : Nat → Nat) (N : zc_N) (w v : Int32) (hI : zc_I N) : za_Cv l g E yX8_tellLast cX8_tellLast 4 0 0 0 [.ref (o 7), .int w, .int v] (zc_ws g o d N) (fun u : zc_N => u = zc_tell N w v) (fun u => zc_ws g o d u) := by
  refine za_begin (by decide) (Nat.le_of_ble_eq_true rfl) RX8 rfl ?_
  intro p e s m args below meth co A ls Q H locs C hQ hr hlocks hnm hS hP hD hl
  obtain ⟨hx, hb, hml, hown, hts, hK, hA, hE⟩ := id C
  have hl : lv_has ls 4 [(0, .ref (o 7)), (1, .int w), (2, .int v)] := hl
  refine lv_aload_n hx hb dX8_tellLast_0 rfl (lv_at hl 0 rfl) ?_
  refine va_get (ci := 7) (v := .int (N.1 71)) hx hb hts iX8 hown hK hP 7 rfl rfl 1 (by decide) (hts _ w_168) (fun _ h9 => h9) rfl dX8_tellLast_1 ?_
  refine lv_iconst (v := 1) hx hb dX8_tellLast_4 (by decide) ?_
  refine lv_isub hx hb dX8_tellLast_5 ?_
  refine lv_bipush (v := 11) hx hb dX8_tellLast_6 (by decide) ?_
  refine lv_imul hx hb dX8_tellLast_8 ?_
  refine lv_iload_n hx hb dX8_tellLast_9 rfl (lv_at hl 1 rfl) ?_
  refine lv_iadd hx hb dX8_tellLast_10 ?_
  refine lv_istore_n (lv' := [(3, .int ((((N.1 71) - 1) * 11) + w)), (0, .ref (o 7)), (1, .int w), (2, .int v)]) hx hb dX8_tellLast_11 rfl hl (by decide) rfl (fun ls hl => ?_)
  refine lv_iload_n hx hb dX8_tellLast_12 rfl (lv_at hl 0 rfl) ?_
  refine lv_if_lt (tgt := 32) hx hb dX8_tellLast_13 (by decide) (fun c_13 => ?_) (fun c_13 => ?_)
  · exact zc_rv hQ hx hb hr hlocks hK hP hD hS (by simp [zc_tell, zq_upd, c_13]) (Nat.le_refl _) (Nat.le_refl _) dX8_tellLast_32
  · refine lv_iload_n hx hb dX8_tellLast_16 rfl (lv_at hl 0 rfl) ?_
    refine lv_aload_n hx hb dX8_tellLast_17 rfl (lv_at hl 1 rfl) ?_
    refine va_get (ci := 7) (v := .ref (d 70)) hx hb hts iX8 hown hK hP 7 rfl rfl 0 (by decide) (hts _ w_167) (fun _ h9 => h9) rfl dX8_tellLast_18 ?_
    refine va_alen (v := nI (N.2.2.2 70)) hx hb hK hP 16 1 rfl rfl rfl dX8_tellLast_21 ?_
    refine za_icmp_ge (tgt := 32) hx hb dX8_tellLast_22 (by decide) (fun c_22 => ?_) (fun c_22 => ?_)
    · exact zc_rv hQ hx hb hr hlocks hK hP hD hS (by simp [zc_tell, zq_upd, c_13, c_22]) (Nat.le_refl _) (Nat.le_refl _) dX8_tellLast_32
    · refine lv_aload_n hx hb dX8_tellLast_25 rfl (lv_at hl 1 rfl) ?_
      refine va_get (ci := 7) (v := .ref (d 70)) hx hb hts iX8 hown hK hP 7 rfl rfl 0 (by decide) (hts _ w_167) (fun _ h9 => h9) rfl dX8_tellLast_26 ?_
      refine lv_iload_n hx hb dX8_tellLast_29 rfl (lv_at hl 0 rfl) ?_
      refine lv_iload_n hx hb dX8_tellLast_30 rfl (lv_at hl 3 rfl) ?_
      refine va_iast (f := N.2.1 70) hx hb hK hP hD hS 16 1 rfl rfl (zk_in c_13 c_22 (Nat.le_refl _) (by have := (zc_len hI 70 (by decide)).2; omega)) dX8_tellLast_31 (fun H locs hP hD hS => ?_)
      have hP := zc_pa70 (X := N) hP
      have hD := zc_da70 (X := N) hD
      have hI : zc_I (zc_a N 70 ((((N.1 71) - 1) * 11) + w) v) := hI
      exact zc_rv hQ hx hb hr hlocks hK hP hD hS (by simp [zc_tell, zq_upd, c_13, c_22]) (Nat.le_refl _) (Nat.le_refl _) dX8_tellLast_32
set_option maxHeartbeats 4000000 in
set_option maxRecDepth 100000 in
theorem kX0_append (l : Launch) (g : za_G) (E : za_E) (o d : Nat → Nat) (N : zc_N) (v : Int32) (hI : zc_I N) : zb_Cv l g E yX0_append cX0_append 2 2 (zc_rc N) (zc_rs N) (zc_L (zc_append N v) - zc_L N) (2 * (zc_L (zc_append N v) - zc_L N)) [.ref (o 0), .int v] (zc_ws g o d N) (fun u : zc_N × (Nat → Nat) => u.1 = zc_append N v) (fun u => zc_ws g o u.2 u.1) := by
  refine zb_begin (by decide) (Nat.le_of_ble_eq_true rfl) RX0 rfl ?_
  intro p e s m args below meth co A ls Q H locs C hQ hr hlocks hnm hS hP hD hl
  obtain ⟨hx, hb, hml, hown, hts, hK, hA, hE⟩ := id C
  have hl : lv_has ls 2 [(0, .ref (o 0)), (1, .int v)] := hl
  have hc : zb_c N N 0 0 := zb_c.rf
  revert hc
  refine (fun (z9 : ∀ cells slots : Nat, zb_c N N cells slots → W p l e (za_R 2 (zc_rc N) (zc_rs N)) s m args below meth co H locs cells slots Q (F0 m 0 ls [])) hc => z9 0 0 hc) (fun cells slots hc => ?_)
  refine lv_aload_n hx hb dX0_append_0 rfl (lv_at hl 0 rfl) ?_
  refine va_get (ci := 0) (v := .int (N.1 1)) hx hb hts iX0 hown hK hP 0 rfl rfl 1 (by decide) (hts _ w_131) (fun _ h9 => h9) rfl dX0_append_1 ?_
  refine lv_aload_n hx hb dX0_append_4 rfl (lv_at hl 0 rfl) ?_
  refine va_get (ci := 0) (v := .ref (d 0)) hx hb hts iX0 hown hK hP 0 rfl rfl 0 (by decide) (hts _ w_130) (fun _ h9 => h9) rfl dX0_append_5 ?_
  refine va_alen (v := nI (N.2.2.2 0)) hx hb hK hP 9 0 rfl rfl rfl dX0_append_8 ?_
  refine lv_icmp_lt (tgt := 40) hx hb dX0_append_9 (by decide) (fun c_9 => ?_) (fun c_9 => ?_)
  · refine lv_aload_n hx hb dX0_append_40 rfl (lv_at hl 0 rfl) ?_
    refine va_get (ci := 0) (v := .int (N.1 1)) hx hb hts iX0 hown hK hP 0 rfl rfl 1 (by decide) (hts _ w_131) (fun _ h9 => h9) rfl dX0_append_41 ?_
    refine lv_aload_n hx hb dX0_append_44 rfl (lv_at hl 0 rfl) ?_
    refine va_get (ci := 0) (v := .ref (d 0)) hx hb hts iX0 hown hK hP 0 rfl rfl 0 (by decide) (hts _ w_130) (fun _ h9 => h9) rfl dX0_append_45 ?_
    refine va_alen (v := nI (N.2.2.2 0)) hx hb hK hP 9 0 rfl rfl rfl dX0_append_48 ?_
    refine za_icmp_ge (tgt := 73) hx hb dX0_append_49 (by decide) (fun c_49 => ?_) (fun c_49 => ?_)
    · exact absurd c_9 c_49
    · refine lv_aload_n hx hb dX0_append_52 rfl (lv_at hl 0 rfl) ?_
      refine va_get (ci := 0) (v := .ref (d 0)) hx hb hts iX0 hown hK hP 0 rfl rfl 0 (by decide) (hts _ w_130) (fun _ h9 => h9) rfl dX0_append_53 ?_
      refine lv_aload_n hx hb dX0_append_56 rfl (lv_at hl 0 rfl) ?_
      refine va_get (ci := 0) (v := .int (N.1 1)) hx hb hts iX0 hown hK hP 0 rfl rfl 1 (by decide) (hts _ w_131) (fun _ h9 => h9) rfl dX0_append_57 ?_
      refine lv_iload_n hx hb dX0_append_60 rfl (lv_at hl 1 rfl) ?_
      refine lv_i2b (v := v.toInt8.toInt32) hx hb dX0_append_61 rfl ?_
      refine va_bast (f := N.2.1 0) hx hb hK hP hD hS 9 0 rfl rfl (by obtain ⟨u, hu1, hu2⟩ := hI.2.2.2.1; exact zk_in (by show ¬ N.1 1 < 0; rw [show N.1 1 = nI u from hu1]; exact nI_pos (by have := (zc_len hI 0 (by decide)).2; omega)) c_49 (Nat.le_refl _) (by have := (zc_len hI 0 (by decide)).2; omega)) dX0_append_62 (fun H locs hP hD hS => ?_)
      have hP := zc_pa0 (X := N) hP
      have hD := zc_da0 (X := N) hD
      have hc : zb_c N (zc_a N 0 (N.1 1) (vp_nar .byte v.toInt8.toInt32)) cells slots := hc
      refine lv_aload_n hx hb dX0_append_63 rfl (lv_at hl 0 rfl) ?_
      refine lv_dup hx hb dX0_append_64 rfl ?_
      refine va_get (ci := 0) (v := .int (N.1 1)) hx hb hts iX0 hown hK hP 0 rfl rfl 1 (by decide) (hts _ w_131) (fun _ h9 => h9) rfl dX0_append_65 ?_
      refine lv_iconst (v := 1) hx hb dX0_append_68 (by decide) ?_
      refine lv_iadd hx hb dX0_append_69 ?_
      refine va_put (ci := 0) (fs := zc_f0 o d (zc_a N 0 (N.1 1) (vp_nar .byte v.toInt8.toInt32)).1) (v := .int ((N.1 1) + 1)) hx hb hts iX0 tyX0 tyX0_ok nmX0 hown hK hP hD hS 0 rfl rfl 1 (by decide) (hts _ w_131) (fun _ h9 => h9) rfl (tyX0_ok 1 (by decide)) rfl rfl (Nat.le_of_ble_eq_true rfl) dX0_append_70 (fun H locs hP hD hS => ?_)
      have hP := zc_pf1 (X := zc_a N 0 (N.1 1) (vp_nar .byte v.toInt8.toInt32)) hP
      have hD := zc_df1 (X := zc_a N 0 (N.1 1) (vp_nar .byte v.toInt8.toInt32)) hD
      have hc : zb_c N (zc_s (zc_a N 0 (N.1 1) (vp_nar .byte v.toInt8.toInt32)) 1 ((N.1 1) + 1)) cells slots := hc
      exact zc_rvg hQ hx hb hr hlocks hK hP hD hS hc (by simp [zc_append, zq_upd, c_9, c_49]) dX0_append_73
  · refine lv_aload_n hx hb dX0_append_12 rfl (lv_at hl 0 rfl) ?_
    refine va_get (ci := 0) (v := .ref (d 0)) hx hb hts iX0 hown hK hP 0 rfl rfl 0 (by decide) (hts _ w_130) (fun _ h9 => h9) rfl dX0_append_13 ?_
    refine va_alen (v := nI (N.2.2.2 0)) hx hb hK hP 9 0 rfl rfl rfl dX0_append_16 ?_
    refine lv_ldc (v := 65536) hx hb hown (hts _ w_449) dX0_append_17 ?_
    refine za_icmp_ge (tgt := 40) hx hb dX0_append_19 (by decide) (fun c_19 => ?_) (fun c_19 => ?_)
    · refine lv_aload_n hx hb dX0_append_40 rfl (lv_at hl 0 rfl) ?_
      refine va_get (ci := 0) (v := .int (N.1 1)) hx hb hts iX0 hown hK hP 0 rfl rfl 1 (by decide) (hts _ w_131) (fun _ h9 => h9) rfl dX0_append_41 ?_
      refine lv_aload_n hx hb dX0_append_44 rfl (lv_at hl 0 rfl) ?_
      refine va_get (ci := 0) (v := .ref (d 0)) hx hb hts iX0 hown hK hP 0 rfl rfl 0 (by decide) (hts _ w_130) (fun _ h9 => h9) rfl dX0_append_45 ?_
      refine va_alen (v := nI (N.2.2.2 0)) hx hb hK hP 9 0 rfl rfl rfl dX0_append_48 ?_
      refine za_icmp_ge (tgt := 73) hx hb dX0_append_49 (by decide) (fun c_49 => ?_) (fun c_49 => ?_)
      · exact zc_rvg hQ hx hb hr hlocks hK hP hD hS hc (by simp [zc_append, zq_upd, c_9, c_19, c_49]) dX0_append_73
      · exact absurd c_49 c_9
    · refine lv_aload_n hx hb dX0_append_22 rfl (lv_at hl 0 rfl) ?_
      refine lv_aload_n hx hb dX0_append_23 rfl (lv_at hl 0 rfl) ?_
      refine va_get (ci := 0) (v := .ref (d 0)) hx hb hts iX0 hown hK hP 0 rfl rfl 0 (by decide) (hts _ w_130) (fun _ h9 => h9) rfl dX0_append_24 ?_
      refine lv_aload_n hx hb dX0_append_27 rfl (lv_at hl 0 rfl) ?_
      refine va_get (ci := 0) (v := .ref (d 0)) hx hb hts iX0 hown hK hP 0 rfl rfl 0 (by decide) (hts _ w_130) (fun _ h9 => h9) rfl dX0_append_28 ?_
      refine va_alen (v := nI (N.2.2.2 0)) hx hb hK hP 9 0 rfl rfl rfl dX0_append_31 ?_
      refine lv_iconst (v := 2) hx hb dX0_append_32 (by decide) ?_
      refine lv_imul hx hb dX0_append_33 ?_
      refine za_top (v := nI (2 * N.2.2.2 0)) (z_dbl _) ?_
      refine za_cr (wc := [(d 0, .inl (g.2.1, N.2.2.2 0, .inl (N.2.1 0)))]) (wr := [(o 0, .inr (0, zc_f0 o d N.1)), (o 1, .inr (1, zc_f1 o d N.1)), (o 2, .inr (2, zc_f2 o d N.1)), (o 3, .inr (3, zc_f3 o d N.1)), (o 4, .inr (4, zc_f4 o d N.1)), (o 5, .inr (5, zc_f5 o d N.1)), (o 6, .inr (6, zc_f6 o d N.1)), (o 7, .inr (7, zc_f7 o d N.1)), (o 8, .inr (8, zc_f8 o d N.1)), (d 11, .inl (g.2.2.2.1, 16, .inr (.inl N.2.2.1))), (d 20, .inl (g.2.2.1, 512, .inl (N.2.1 20))), (d 21, .inl (g.2.2.1, N.2.2.2 21, .inl (N.2.1 21))), (d 22, .inl (g.2.2.1, N.2.2.2 22, .inl (N.2.1 22))), (d 23, .inl (g.2.2.1, N.2.2.2 23, .inl (N.2.1 23))), (d 60, .inl (g.2.1, N.2.2.2 60, .inl (N.2.1 60))), (d 70, .inl (g.2.2.1, N.2.2.2 70, .inl (N.2.1 70)))]) C hP hD hS [9] [0, 1, 2, 3, 4, 5, 6, 7, 8, 10, 11, 12, 13, 14, 15, 16] rfl rfl (by decide) (by decide) (za_runS C hP hD hS [9] rfl (by decide) rfl (kJ7_copyB l g E (d 0) (N.2.2.2 0) (2 * N.2.2.2 0) (N.2.1 0) (by have := (zc_len hI 0 (by decide)).1; omega) (by have := (zc_len hI 0 (by decide)).2; omega) (fun i _ => hI.2.2.2.2.2.2.1 i)) w_450 mJ7_copyOf_9075b rfl hl.1 rfl (Nat.le_of_ble_eq_true rfl) dX0_append_34 ⟨Nat.le_of_ble_eq_true rfl, Nat.le_of_ble_eq_true rfl⟩ (hc.one (zc_cap0 hI c_19).1 (zc_len hI 0 (by decide)).1)) (fun _ q1 H locs _ hP hD hS => ?_)
      have hP := zc_pc0 (X := N) (d := d) hP
      have hD := zc_dc0 (X := N) (d := d) hD
      refine va_put (ci := 0) (fs := zc_f0 o d N.1) (v := .ref q1) hx hb hts iX0 tyX0 tyX0_ok nmX0 hown hK hP hD hS 0 rfl rfl 0 (by decide) (hts _ w_130) (fun _ h9 => h9) rfl (tyX0_ok 0 (by decide)) rfl rfl (Nat.le_of_ble_eq_true rfl) dX0_append_37 (fun H locs hP hD hS => ?_)
      have hP := zc_pg0 (X := N) (d := d) hP
      have hD := zc_dg0 (X := N) (d := d) hD
      have hc := hc.grow0 (n := 2 * N.2.2.2 0) rfl (zc_len hI 0 (by decide)).1
      revert hc
      generalize cells + 1 = cells, slots + (2 * N.2.2.2 0) = slots
      intro hc
      have hI : zc_I (zc_g N 0 (2 * N.2.2.2 0)) := (zc_cap0 hI c_19).2
      refine lv_aload_n hx hb dX0_append_40 rfl (lv_at hl 0 rfl) ?_
      refine va_get (ci := 0) (v := .int (N.1 1)) hx hb hts iX0 hown hK hP 0 rfl rfl 1 (by decide) (hts _ w_131) (fun _ h9 => h9) rfl dX0_append_41 ?_
      refine lv_aload_n hx hb dX0_append_44 rfl (lv_at hl 0 rfl) ?_
      refine va_get (ci := 0) (v := .ref ((zc_ad d 0 q1) 0)) hx hb hts iX0 hown hK hP 0 rfl rfl 0 (by decide) (hts _ w_130) (fun _ h9 => h9) rfl dX0_append_45 ?_
      refine va_alen (v := nI (2 * N.2.2.2 0)) hx hb hK hP 9 0 rfl rfl rfl dX0_append_48 ?_
      refine za_icmp_ge (tgt := 73) hx hb dX0_append_49 (by decide) (fun c_49 => ?_) (fun c_49 => ?_)
      · exact zc_rvg hQ hx hb hr hlocks hK hP hD hS hc (by simp [zc_append, zq_upd, c_9, c_19, c_49]) dX0_append_73
      · refine lv_aload_n hx hb dX0_append_52 rfl (lv_at hl 0 rfl) ?_
        refine va_get (ci := 0) (v := .ref ((zc_ad d 0 q1) 0)) hx hb hts iX0 hown hK hP 0 rfl rfl 0 (by decide) (hts _ w_130) (fun _ h9 => h9) rfl dX0_append_53 ?_
        refine lv_aload_n hx hb dX0_append_56 rfl (lv_at hl 0 rfl) ?_
        refine va_get (ci := 0) (v := .int (N.1 1)) hx hb hts iX0 hown hK hP 0 rfl rfl 1 (by decide) (hts _ w_131) (fun _ h9 => h9) rfl dX0_append_57 ?_
        refine lv_iload_n hx hb dX0_append_60 rfl (lv_at hl 1 rfl) ?_
        refine lv_i2b (v := v.toInt8.toInt32) hx hb dX0_append_61 rfl ?_
        refine va_bast (f := (zc_g N 0 (2 * N.2.2.2 0)).2.1 0) hx hb hK hP hD hS 9 0 rfl rfl (by obtain ⟨u, hu1, hu2⟩ := hI.2.2.2.1; exact zk_in (by show ¬ N.1 1 < 0; rw [show N.1 1 = nI u from hu1]; exact nI_pos (by have := (zc_len hI 0 (by decide)).2; omega)) c_49 (Nat.le_refl _) (by have := (zc_len hI 0 (by decide)).2; omega)) dX0_append_62 (fun H locs hP hD hS => ?_)
        have hP := zc_pa0 (X := zc_g N 0 (2 * N.2.2.2 0)) hP
        have hD := zc_da0 (X := zc_g N 0 (2 * N.2.2.2 0)) hD
        have hc : zb_c N (zc_a (zc_g N 0 (2 * N.2.2.2 0)) 0 (N.1 1) (vp_nar .byte v.toInt8.toInt32)) cells slots := hc
        refine lv_aload_n hx hb dX0_append_63 rfl (lv_at hl 0 rfl) ?_
        refine lv_dup hx hb dX0_append_64 rfl ?_
        refine va_get (ci := 0) (v := .int (N.1 1)) hx hb hts iX0 hown hK hP 0 rfl rfl 1 (by decide) (hts _ w_131) (fun _ h9 => h9) rfl dX0_append_65 ?_
        refine lv_iconst (v := 1) hx hb dX0_append_68 (by decide) ?_
        refine lv_iadd hx hb dX0_append_69 ?_
        refine va_put (ci := 0) (fs := zc_f0 o (zc_ad d 0 q1) (zc_a (zc_g N 0 (2 * N.2.2.2 0)) 0 (N.1 1) (vp_nar .byte v.toInt8.toInt32)).1) (v := .int ((N.1 1) + 1)) hx hb hts iX0 tyX0 tyX0_ok nmX0 hown hK hP hD hS 0 rfl rfl 1 (by decide) (hts _ w_131) (fun _ h9 => h9) rfl (tyX0_ok 1 (by decide)) rfl rfl (Nat.le_of_ble_eq_true rfl) dX0_append_70 (fun H locs hP hD hS => ?_)
        have hP := zc_pf1 (X := zc_a (zc_g N 0 (2 * N.2.2.2 0)) 0 (N.1 1) (vp_nar .byte v.toInt8.toInt32)) hP
        have hD := zc_df1 (X := zc_a (zc_g N 0 (2 * N.2.2.2 0)) 0 (N.1 1) (vp_nar .byte v.toInt8.toInt32)) hD
        have hc : zb_c N (zc_s (zc_a (zc_g N 0 (2 * N.2.2.2 0)) 0 (N.1 1) (vp_nar .byte v.toInt8.toInt32)) 1 ((N.1 1) + 1)) cells slots := hc
        exact zc_rvg hQ hx hb hr hlocks hK hP hD hS hc (by simp [zc_append, zq_upd, c_9, c_19, c_49]) dX0_append_73
set_option maxHeartbeats 4000000 in
set_option maxRecDepth 100000 in
theorem kX7_makeRoom (l : Launch) (g : za_G) (E : za_E) (o d : Nat → Nat) (N : zc_N) (q : Int32) (hI : zc_I N) : zb_Ci l g E yX7_makeRoom cX7_makeRoom 2 ((some .boolean)) 2 (zc_rc N) (zc_rs N) (zc_L (zc_makeRoom N q) - zc_L N) (2 * (zc_L (zc_makeRoom N q) - zc_L N)) [.ref (o 6), .int q] (zc_ws g o d N) (fun r (u : zc_N × (Nat → Nat)) => r = zk_makeRoom N q ∧ u.1 = zc_makeRoom N q) (fun u => zc_ws g o u.2 u.1) := by
  refine zb_begin (by decide) (Nat.le_of_ble_eq_true rfl) RX7 rfl ?_
  intro p e s m args below meth co A ls Q H locs C hQ hr hlocks hnm hS hP hD hl
  obtain ⟨hx, hb, hml, hown, hts, hK, hA, hE⟩ := id C
  have hl : lv_has ls 2 [(0, .ref (o 6)), (1, .int q)] := hl
  have hc : zb_c N N 0 0 := zb_c.rf
  revert hc
  refine (fun (z9 : ∀ cells slots : Nat, zb_c N N cells slots → W p l e (za_R 2 (zc_rc N) (zc_rs N)) s m args below meth co H locs cells slots Q (F0 m 0 ls [])) hc => z9 0 0 hc) (fun cells slots hc => ?_)
  refine lv_aload_n hx hb dX7_makeRoom_0 rfl (lv_at hl 0 rfl) ?_
  refine va_get (ci := 6) (v := .int (N.1 61)) hx hb hts iX7 hown hK hP 6 rfl rfl 1 (by decide) (hts _ w_94) (fun _ h9 => h9) rfl dX7_makeRoom_1 ?_
  refine lv_iload_n hx hb dX7_makeRoom_4 rfl (lv_at hl 1 rfl) ?_
  refine lv_iadd hx hb dX7_makeRoom_5 ?_
  refine lv_ldc (v := 65536) hx hb hown (hts _ w_287) dX7_makeRoom_6 ?_
  refine za_icmp_le (tgt := 13) hx hb dX7_makeRoom_8 (by decide) (fun c_8 => ?_) (fun c_8 => ?_)
  · refine lv_aload_n hx hb dX7_makeRoom_13 rfl (lv_at hl 0 rfl) ?_
    refine va_get (ci := 6) (v := .int (N.1 61)) hx hb hts iX7 hown hK hP 6 rfl rfl 1 (by decide) (hts _ w_94) (fun _ h9 => h9) rfl dX7_makeRoom_14 ?_
    refine lv_iload_n hx hb dX7_makeRoom_17 rfl (lv_at hl 1 rfl) ?_
    refine lv_iadd hx hb dX7_makeRoom_18 ?_
    refine lv_aload_n hx hb dX7_makeRoom_19 rfl (lv_at hl 0 rfl) ?_
    refine va_get (ci := 6) (v := .ref (d 60)) hx hb hts iX7 hown hK hP 6 rfl rfl 0 (by decide) (hts _ w_93) (fun _ h9 => h9) rfl dX7_makeRoom_20 ?_
    refine va_alen (v := nI (N.2.2.2 60)) hx hb hK hP 15 0 rfl rfl rfl dX7_makeRoom_23 ?_
    refine za_icmp_le (tgt := 45) hx hb dX7_makeRoom_24 (by decide) (fun c_24 => ?_) (fun c_24 => ?_)
    · refine lv_aload_n hx hb dX7_makeRoom_45 rfl (lv_at hl 0 rfl) ?_
      refine va_get (ci := 6) (v := .int (N.1 61)) hx hb hts iX7 hown hK hP 6 rfl rfl 1 (by decide) (hts _ w_94) (fun _ h9 => h9) rfl dX7_makeRoom_46 ?_
      refine lv_iload_n hx hb dX7_makeRoom_49 rfl (lv_at hl 1 rfl) ?_
      refine lv_iadd hx hb dX7_makeRoom_50 ?_
      refine lv_aload_n hx hb dX7_makeRoom_51 rfl (lv_at hl 0 rfl) ?_
      refine va_get (ci := 6) (v := .ref (d 60)) hx hb hts iX7 hown hK hP 6 rfl rfl 0 (by decide) (hts _ w_93) (fun _ h9 => h9) rfl dX7_makeRoom_52 ?_
      refine va_alen (v := nI (N.2.2.2 60)) hx hb hK hP 15 0 rfl rfl rfl dX7_makeRoom_55 ?_
      refine lv_icmp_gt (tgt := 63) hx hb dX7_makeRoom_56 (by decide) (fun c_56 => ?_) (fun c_56 => ?_)
      · exact absurd c_56 c_24
      · refine lv_iconst (v := 1) hx hb dX7_makeRoom_59 (by decide) ?_
        refine lv_goto (tgt := 64) hx hb dX7_makeRoom_60 (by decide) ?_
        exact zc_rig hQ hx hb hr hlocks hK hP hD hS hc rfl (by simp [zk_makeRoom, zc_makeRoom, zq_upd, c_8, c_24, c_56]) (by simp [zk_makeRoom, zc_makeRoom, zq_upd, c_8, c_24, c_56]) dX7_makeRoom_64
    · refine lv_aload_n hx hb dX7_makeRoom_27 rfl (lv_at hl 0 rfl) ?_
      refine lv_aload_n hx hb dX7_makeRoom_28 rfl (lv_at hl 0 rfl) ?_
      refine va_get (ci := 6) (v := .ref (d 60)) hx hb hts iX7 hown hK hP 6 rfl rfl 0 (by decide) (hts _ w_93) (fun _ h9 => h9) rfl dX7_makeRoom_29 ?_
      refine lv_aload_n hx hb dX7_makeRoom_32 rfl (lv_at hl 0 rfl) ?_
      refine va_get (ci := 6) (v := .ref (d 60)) hx hb hts iX7 hown hK hP 6 rfl rfl 0 (by decide) (hts _ w_93) (fun _ h9 => h9) rfl dX7_makeRoom_33 ?_
      refine va_alen (v := nI (N.2.2.2 60)) hx hb hK hP 15 0 rfl rfl rfl dX7_makeRoom_36 ?_
      refine lv_iconst (v := 2) hx hb dX7_makeRoom_37 (by decide) ?_
      refine lv_imul hx hb dX7_makeRoom_38 ?_
      refine za_top (v := nI (2 * N.2.2.2 60)) (z_dbl _) ?_
      refine za_cr (wc := [(d 60, .inl (g.2.1, N.2.2.2 60, .inl (N.2.1 60)))]) (wr := [(o 0, .inr (0, zc_f0 o d N.1)), (o 1, .inr (1, zc_f1 o d N.1)), (o 2, .inr (2, zc_f2 o d N.1)), (o 3, .inr (3, zc_f3 o d N.1)), (o 4, .inr (4, zc_f4 o d N.1)), (o 5, .inr (5, zc_f5 o d N.1)), (o 6, .inr (6, zc_f6 o d N.1)), (o 7, .inr (7, zc_f7 o d N.1)), (o 8, .inr (8, zc_f8 o d N.1)), (d 0, .inl (g.2.1, N.2.2.2 0, .inl (N.2.1 0))), (d 11, .inl (g.2.2.2.1, 16, .inr (.inl N.2.2.1))), (d 20, .inl (g.2.2.1, 512, .inl (N.2.1 20))), (d 21, .inl (g.2.2.1, N.2.2.2 21, .inl (N.2.1 21))), (d 22, .inl (g.2.2.1, N.2.2.2 22, .inl (N.2.1 22))), (d 23, .inl (g.2.2.1, N.2.2.2 23, .inl (N.2.1 23))), (d 70, .inl (g.2.2.1, N.2.2.2 70, .inl (N.2.1 70)))]) C hP hD hS [15] [0, 1, 2, 3, 4, 5, 6, 7, 8, 9, 10, 11, 12, 13, 14, 16] rfl rfl (by decide) (by decide) (za_runS C hP hD hS [15] rfl (by decide) rfl (kJ7_copyB l g E (d 60) (N.2.2.2 60) (2 * N.2.2.2 60) (N.2.1 60) (by have := (zc_len hI 60 (by decide)).1; omega) (by have := (zc_len hI 60 (by decide)).2; omega) (fun i _ => hI.2.2.2.2.2.2.2 i)) w_288 mJ7_copyOf_9075b rfl hl.1 rfl (Nat.le_of_ble_eq_true rfl) dX7_makeRoom_39 ⟨Nat.le_of_ble_eq_true rfl, Nat.le_of_ble_eq_true rfl⟩ (hc.one (zc_cap60 hI c_24 c_8).1 (zc_len hI 60 (by decide)).1)) (fun _ q1 H locs _ hP hD hS => ?_)
      have hP := zc_pc60 (X := N) (d := d) hP
      have hD := zc_dc60 (X := N) (d := d) hD
      refine va_put (ci := 6) (fs := zc_f6 o d N.1) (v := .ref q1) hx hb hts iX7 tyX7 tyX7_ok nmX7 hown hK hP hD hS 6 rfl rfl 0 (by decide) (hts _ w_93) (fun _ h9 => h9) rfl (tyX7_ok 0 (by decide)) rfl rfl (Nat.le_of_ble_eq_true rfl) dX7_makeRoom_42 (fun H locs hP hD hS => ?_)
      have hP := zc_pg60 (X := N) (d := d) hP
      have hD := zc_dg60 (X := N) (d := d) hD
      have hc := hc.grow60 (n := 2 * N.2.2.2 60) rfl (zc_len hI 60 (by decide)).1
      revert hc
      generalize cells + 1 = cells, slots + (2 * N.2.2.2 60) = slots
      intro hc
      refine lv_aload_n hx hb dX7_makeRoom_45 rfl (lv_at hl 0 rfl) ?_
      refine va_get (ci := 6) (v := .int (N.1 61)) hx hb hts iX7 hown hK hP 6 rfl rfl 1 (by decide) (hts _ w_94) (fun _ h9 => h9) rfl dX7_makeRoom_46 ?_
      refine lv_iload_n hx hb dX7_makeRoom_49 rfl (lv_at hl 1 rfl) ?_
      refine lv_iadd hx hb dX7_makeRoom_50 ?_
      refine lv_aload_n hx hb dX7_makeRoom_51 rfl (lv_at hl 0 rfl) ?_
      refine va_get (ci := 6) (v := .ref ((zc_ad d 60 q1) 60)) hx hb hts iX7 hown hK hP 6 rfl rfl 0 (by decide) (hts _ w_93) (fun _ h9 => h9) rfl dX7_makeRoom_52 ?_
      refine va_alen (v := nI (2 * N.2.2.2 60)) hx hb hK hP 15 0 rfl rfl rfl dX7_makeRoom_55 ?_
      refine lv_icmp_gt (tgt := 63) hx hb dX7_makeRoom_56 (by decide) (fun c_56 => ?_) (fun c_56 => ?_)
      · refine lv_iconst (v := 0) hx hb dX7_makeRoom_63 (by decide) ?_
        exact zc_rig hQ hx hb hr hlocks hK hP hD hS hc rfl (by simp [zk_makeRoom, zc_makeRoom, zq_upd, c_8, c_24, c_56]) (by simp [zk_makeRoom, zc_makeRoom, zq_upd, c_8, c_24, c_56]) dX7_makeRoom_64
      · refine lv_iconst (v := 1) hx hb dX7_makeRoom_59 (by decide) ?_
        refine lv_goto (tgt := 64) hx hb dX7_makeRoom_60 (by decide) ?_
        exact zc_rig hQ hx hb hr hlocks hK hP hD hS hc rfl (by simp [zk_makeRoom, zc_makeRoom, zq_upd, c_8, c_24, c_56]) (by simp [zk_makeRoom, zc_makeRoom, zq_upd, c_8, c_24, c_56]) dX7_makeRoom_64
  · refine lv_iconst (v := 0) hx hb dX7_makeRoom_11 (by decide) ?_
    exact zc_rig hQ hx hb hr hlocks hK hP hD hS hc rfl (by simp [zk_makeRoom, zc_makeRoom, zq_upd, c_8]) (by simp [zk_makeRoom, zc_makeRoom, zq_upd, c_8]) dX7_makeRoom_12
