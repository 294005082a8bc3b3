theorem zk_inn {x : Int32} {z n : Nat} (hx : x = nI z) (hc : x < nI n) (hz : z < 2 ^ 30) (hn : n ≤ 400000) : vp_in x n := by
  subst hx
  exact vp_in_nI ((nI_ltI (by omega) (by omega)).mp hc) (by omega)
theorem z_ltc {j : Nat} {n : Int32} (hj : j < 2 ^ 31) : nI j < n ↔ j < n.toNatClampNeg := by
  rw [Int32.lt_iff_toInt_lt, nI_toInt hj]
  unfold Int32.toNatClampNeg
  omega
theorem z_clt (n : Int32) : n.toNatClampNeg < 2 ^ 31 := by
  have := Int32.toInt_lt n
  unfold Int32.toNatClampNeg
  omega
theorem z_nar01 {v : Int32} (h : v = 0 ∨ v = 1) : narrow .boolean (.int v) = .int v := by
  rcases h with h | h <;> subst h <;> rfl
theorem z_fit01 {v : Int32} (h : v = 0 ∨ v = 1) : fits .boolean (.int v) = true := by
  rcases h with h | h <;> subst h <;> rfl
theorem zk_ends_01 (k : Int32) : zk_ends k = 0 ∨ zk_ends k = 1 := by
  unfold zk_ends
  split
  · exact Or.inr rfl
  · exact Or.inl rfl
theorem z_full {N : zc_N} (h : zk_isFull N = 0) : N.1 71 < 16384 := by
  unfold zk_isFull at h
  split at h
  · assumption
  · exact absurd h (by decide)
theorem zi_mark {N : zc_N} (hI : zc_I N) : zc_I (zc_mark N) := by
  unfold zc_mark
  exact hI
theorem zi_refuse {N : zc_N} (hI : zc_I N) : zc_I (zc_refuse N) := by
  unfold zc_refuse
  exact hI
theorem zi_refuseAt {N : zc_N} (hI : zc_I N) (q : Int32) : zc_I (zc_refuseAt N q) := by
  unfold zc_refuseAt
  exact hI
theorem zL_mark {N : zc_N} : zc_L (zc_mark N) = zc_L N := rfl
theorem zL_refuse {N : zc_N} : zc_L (zc_refuse N) = zc_L N := rfl
theorem zL_refuseAt {N : zc_N} {q : Int32} : zc_L (zc_refuseAt N q) = zc_L N := rfl
theorem zi_appendCode {N : zc_N} (hI : zc_I N) (c : Int32) : zc_I (zc_appendCode N c) := by
  unfold zc_appendCode
  split
  · exact zi_append hI _
  · split
    · exact zi_append (zi_append hI _) _
    · split
      · exact zi_append (zi_append (zi_append hI _) _) _
      · exact zi_append (zi_append (zi_append (zi_append hI _) _) _) _
theorem zl_appendCode {N : zc_N} (c : Int32) : zc_L N ≤ zc_L (zc_appendCode N c) := by
  unfold zc_appendCode
  split
  · exact zl_append _
  · split
    · exact Nat.le_trans (zl_append _) (zl_append _)
    · split
      · exact Nat.le_trans (Nat.le_trans (zl_append _) (zl_append _)) (zl_append _)
      · exact Nat.le_trans (Nat.le_trans (Nat.le_trans (zl_append _) (zl_append _)) (zl_append _)) (zl_append _)
theorem zc_cap70 {N : zc_N} (hI : zc_I N) (hf : N.1 71 < 16384) (h : nI (N.2.2.2 70) < (N.1 71 + 1) * 11) : zc_L N + N.2.2.2 70 ≤ 360448 ∧ zc_I (zc_g N 70 (2 * N.2.2.2 70)) ∧ ¬ nI (2 * N.2.2.2 70) < (N.1 71 + 1) * 11 := by
  have hl := zc_len hI 70 (by decide)
  obtain ⟨⟨⟨a, a1, a2⟩, ⟨b, b1, b2⟩, ⟨c, c1, c2⟩, ⟨d, d1, d2, d3, d4⟩⟩, i2, ⟨t, t1, t2, t3⟩, i4, i5, i6, i7, i8⟩ := hI
  rw [t1] at hf
  have ht : t < 16384 := z_lit (by omega) (by decide) hf
  rw [t1, nI_1, z_mul11] at h ⊢
  have h9 : N.2.2.2 70 < (t + 1) * 11 := z_lit (by omega) (by omega) h
  have e8 : (2 : Nat) ^ 8 = 256 := rfl
  have e9 : (2 : Nat) ^ 9 = 512 := rfl
  have e7 : (2 : Nat) ^ 7 = 128 := rfl
  have p0 := Nat.two_pow_pos c
  have hc : c + 1 ≤ 8 := z_pow7 (by omega)
  have hc7 := z_pw (show c ≤ 7 by omega)
  have ha := z_pw a1
  have hb := z_pw b1
  have hd := z_pw d1
  refine ⟨?_, ⟨⟨⟨a, a1, a2⟩, ⟨b, b1, b2⟩, ⟨c + 1, hc, ?_⟩, ⟨d, d1, d2, d3, d4⟩⟩, i2, ⟨t, t1, ?_, t3⟩, i4, i5, i6, i7, i8⟩, ?_⟩
  · unfold zc_L
    omega
  · show 2 * N.2.2.2 70 = _
    rw [c2, Nat.pow_succ]
    omega
  · show t * 11 ≤ 2 * N.2.2.2 70
    omega
  · exact nI_nlt (by omega) (by omega)
theorem zi_c71 {N : zc_N} (hI : zc_I N) (hf : N.1 71 < 16384) (h : ¬ nI (N.2.2.2 70) < (N.1 71 + 1) * 11) : zc_I (zc_s N 71 (N.1 71 + 1)) := by
  have hl := zc_len hI 70 (by decide)
  obtain ⟨i1, i2, ⟨t, t1, t2, t3⟩, i4, ⟨k, t', k1, k2, k3, k4, k5⟩, i6, i7, i8⟩ := hI
  rw [t1] at hf h
  have ht : t < 16384 := z_lit (by omega) (by decide) hf
  rw [nI_1, z_mul11] at h
  have h9 : (t + 1) * 11 ≤ N.2.2.2 70 := by
    rcases Nat.lt_or_ge (N.2.2.2 70) ((t + 1) * 11) with q | q
    · exact absurd (nI_lt q (by omega)) h
    · exact q
  have e : t' = t := z_injC (by omega) (by omega) (k2.symm.trans t1)
  subst e
  have hn : N.1 71 + 1 = nI (t' + 1) := by rw [t1, nI_1]
  exact ⟨i1, i2, ⟨t' + 1, hn, h9, by omega⟩, i4, ⟨k, t' + 1, k1, hn, by omega, by omega, k5⟩, i6, i7, i8⟩
theorem zi_more70 {N : zc_N} (hI : zc_I N) (hf : N.1 71 < 16384) : zc_I (zc_s (zc_more70 N) 71 ((zc_more70 N).1 71 + 1)) := by
  unfold zc_more70
  split
  · rename_i h
    exact zi_c71 (zc_cap70 hI hf h).2.1 hf (zc_cap70 hI hf h).2.2
  · rename_i h
    exact zi_c71 hI hf h
theorem zi_zero {N : zc_N} (hI : zc_I N) : zc_I (zc_zero N) := by
  unfold zc_zero
  exact zi_tell (zi_tell (zi_tell (zi_tell (zi_tell (zi_tell (zi_tell (zi_tell (zi_tell (zi_tell (zi_tell hI _ _) _ _) _ _) _ _) _ _) _ _) _ _) _ _) _ _) _ _) _ _
theorem zL_zero {N : zc_N} : zc_L (zc_zero N) = zc_L N := by
  unfold zc_zero
  rw [zL_tell, zL_tell, zL_tell, zL_tell, zL_tell, zL_tell, zL_tell, zL_tell, zL_tell, zL_tell, zL_tell]
theorem zi_add {N : zc_N} (hI : zc_I N) (hf : N.1 71 < 16384) (k : Int32) : zc_I (zc_add N k) := zi_tell (zi_tell (zi_zero (zi_more70 hI hf)) _ _) _ _
theorem zl_more70 {N : zc_N} : zc_L N ≤ zc_L (zc_more70 N) := by
  have h0 : zc_L N ≤ zc_L (zc_g N 70 (2 * N.2.2.2 70)) := by
    simp [zc_L]
    omega
  unfold zc_more70
  split
  · exact h0
  · exact Nat.le_refl _
theorem zl_add {N : zc_N} (k : Int32) : zc_L N ≤ zc_L (zc_add N k) := by
  unfold zc_add
  dsimp only
  rw [zL_tell, zL_tell, zL_zero]
  exact zl_more70
theorem zi_58 {X : zc_N} {v : Int32} (hI : zc_I X) : zc_I (zc_s X 58 v) := hI
theorem zi_from1 {N : zc_N} (hI : zc_I N) (n : Int32) : zc_I (zc_from1 N n) := by
  unfold zc_from1
  exact zi_tell (zi_tell (zi_tell (zi_tell (zi_tell hI _ _) _ _) _ _) _ _) _ _
theorem zi_from2 {N : zc_N} (hI : zc_I N) (k : Int32) : zc_I (zc_from2 N k) := by
  unfold zc_from2
  exact zi_58 (zi_tell hI _ _)
theorem zi_from {N : zc_N} (hI : zc_I N) (hf : N.1 71 < 16384) (k n : Int32) : zc_I (zc_from N k n) := zi_from2 (zi_from1 (zi_add hI hf k) n) k
theorem zL_58 {X : zc_N} {v : Int32} : zc_L (zc_s X 58 v) = zc_L X := rfl
theorem zL_from1 {N : zc_N} {n : Int32} : zc_L (zc_from1 N n) = zc_L N := by
  unfold zc_from1
  rw [zL_tell, zL_tell, zL_tell, zL_tell, zL_tell]
theorem zL_from2 {N : zc_N} {k : Int32} : zc_L (zc_from2 N k) = zc_L N := by
  unfold zc_from2
  rw [zL_58, zL_tell]
theorem zl_from {N : zc_N} (k n : Int32) : zc_L N ≤ zc_L (zc_from N k n) := by
  unfold zc_from
  rw [zL_from2, zL_from1]
  exact zl_add k
theorem zi_endLine {N : zc_N} (hI : zc_I N) : zc_I (zc_endLine N) := by
  unfold zc_endLine
  split
  · exact hI
  · split
    · rename_i h
      exact zi_tell (zi_from hI (z_full h) _ _) _ _
    · exact zi_refuseAt hI _
theorem zl_endLine {N : zc_N} : zc_L N ≤ zc_L (zc_endLine N) := by
  unfold zc_endLine
  split
  · exact Nat.le_refl _
  · split
    · rw [zL_tell]
      exact zl_from _ _
    · exact Nat.le_refl _
theorem zi_putT {N : zc_N} (hI : zc_I N) (hf : N.1 71 < 16384) (k : Int32) : zc_I (zc_putT N k) := zi_from hI hf _ _
theorem zl_putT {N : zc_N} (k : Int32) : zc_L N ≤ zc_L (zc_putT N k) := zl_from _ _
theorem zi_clear {N : zc_N} (hI : zc_I N) : zc_I (zc_clear N) := by
  obtain ⟨i1, i2, i3, i4, i5, i6, i7, i8⟩ := hI
  have h : ∀ X : zc_N, X.2.2.2 = N.2.2.2 → X.1 61 = N.1 61 → X.1 12 = N.1 12 → X.1 71 = 0 → X.1 1 = 0 → X.1 24 = 0 → X.2.1 0 = N.2.1 0 → X.2.1 60 = N.2.1 60 → zc_I X := by
    intro X e1 e2 e3 e4 e5 e6 e7 e8
    unfold zc_I
    rw [e1, e2, e3, e4, e5, e6, e7, e8]
    exact ⟨i1, i2, ⟨0, rfl, by omega, by omega⟩, ⟨0, rfl, by omega⟩, ⟨0, 0, rfl, rfl, by omega, by omega, by omega⟩, i6, i7, i8⟩
  unfold zc_clear zc_clearN
  split
  · exact h _ rfl rfl rfl rfl rfl rfl rfl rfl
  · exact h _ rfl rfl rfl rfl rfl rfl rfl rfl
theorem zL_clear {N : zc_N} : zc_L (zc_clear N) = zc_L N := by
  unfold zc_clear zc_clearN
  split <;> rfl
theorem zi_begin {N : zc_N} (hI : zc_I N) : zc_I (zc_begin N) := zi_clear hI
theorem zL_begin {N : zc_N} : zc_L (zc_begin N) = zc_L N := zL_clear
theorem zc_tell_1 {N : zc_N} {w v : Int32} : (zc_tell N w v).1 = N.1 := by
  unfold zc_tell
  split <;> rfl
theorem zc_pfill {g : za_G} {o d : Nat → Nat} {X : zc_N} {H : Heap} (z : va_P g.1 vwCl ([(o 0, .inr (0, zc_f0 o d X.1)), (o 1, .inr (1, zc_f1 o d X.1)), (o 2, .inr (2, zc_f2 o d X.1)), (o 3, .inr (3, zc_f3 o d X.1)), (o 4, .inr (4, zc_f4 o d X.1)), (o 5, .inr (5, zc_f5 o d X.1)), (o 6, .inr (6, zc_f6 o d X.1)), (o 7, .inr (7, zc_f7 o d X.1)), (o 8, .inr (8, zc_f8 o d X.1)), (d 0, .inl (g.2.1, X.2.2.2 0, .inl (X.2.1 0))), (d 11, .inl (g.2.2.2.1, 16, .inr (.inl X.2.2.1))), (d 21, .inl (g.2.2.1, X.2.2.2 21, .inl (X.2.1 21))), (d 22, .inl (g.2.2.1, X.2.2.2 22, .inl (X.2.1 22))), (d 23, .inl (g.2.2.1, X.2.2.2 23, .inl (X.2.1 23))), (d 60, .inl (g.2.1, X.2.2.2 60, .inl (X.2.1 60))), (d 70, .inl (g.2.2.1, X.2.2.2 70, .inl (X.2.1 70)))] ++ [(d 20, .inl (g.2.2.1, 512, .inl (fun k => if k < 512 then -1 else X.2.1 20 k)))]) H) : va_P g.1 vwCl (zc_ws g o d (zc_fill X)) H := z.sub [0, 1, 2, 3, 4, 5, 6, 7, 8, 9, 10, 16, 11, 12, 13, 14, 15] rfl
theorem zc_dfill {g : za_G} {o d : Nat → Nat} {X : zc_N} {A : Nat → Prop} (z : va_D A ([(o 0, .inr (0, zc_f0 o d X.1)), (o 1, .inr (1, zc_f1 o d X.1)), (o 2, .inr (2, zc_f2 o d X.1)), (o 3, .inr (3, zc_f3 o d X.1)), (o 4, .inr (4, zc_f4 o d X.1)), (o 5, .inr (5, zc_f5 o d X.1)), (o 6, .inr (6, zc_f6 o d X.1)), (o 7, .inr (7, zc_f7 o d X.1)), (o 8, .inr (8, zc_f8 o d X.1)), (d 0, .inl (g.2.1, X.2.2.2 0, .inl (X.2.1 0))), (d 11, .inl (g.2.2.2.1, 16, .inr (.inl X.2.2.1))), (d 21, .inl (g.2.2.1, X.2.2.2 21, .inl (X.2.1 21))), (d 22, .inl (g.2.2.1, X.2.2.2 22, .inl (X.2.1 22))), (d 23, .inl (g.2.2.1, X.2.2.2 23, .inl (X.2.1 23))), (d 60, .inl (g.2.1, X.2.2.2 60, .inl (X.2.1 60))), (d 70, .inl (g.2.2.1, X.2.2.2 70, .inl (X.2.1 70)))] ++ [(d 20, .inl (g.2.2.1, 512, .inl (fun k => if k < 512 then -1 else X.2.1 20 k)))])) : va_D A (zc_ws g o d (zc_fill X)) := z.sub [0, 1, 2, 3, 4, 5, 6, 7, 8, 9, 10, 16, 11, 12, 13, 14, 15] (by decide) rfl
set_option maxHeartbeats 4000000 in
set_option maxRecDepth 100000 in
theorem kX7_appendFour (l : Launch) (g : za_G) (E : za_E) (o d : Nat → Nat) (N : zc_N) (v : Int32) (hI : zc_I N) : za_Cv l g E yX7_appendFour cX7_appendFour 3 0 0 0 [.ref (o 6), .int v] (zc_ws g o d N) (fun u : zc_N => u = zc_four N v) (fun u => zc_ws g o d u) := by
  refine za_begin (by decide) (Nat.le_of_ble_eq_true rfl) RX7 rfl ?_
  intro p e s m args below meth co A ls Q H locs C hQ hr hlocks hnm hS hP hD hl
  obtain ⟨hx, hb, hml, hown, hts, hK, hA, hE⟩ := id C
  have hl : lv_has ls 3 [(0, .ref (o 6)), (1, .int v)] := hl
  have hI0 := hI
  refine lv_bipush (v := 24) hx hb dX7_appendFour_0 (by decide) ?_
  refine lv_istore_n (lv' := [(2, .int 24), (0, .ref (o 6)), (1, .int v)]) hx hb dX7_appendFour_2 rfl hl (by decide) rfl (fun ls hl => ?_)
  refine lv_iload_n hx hb dX7_appendFour_3 rfl (lv_at hl 0 rfl) ?_
  refine lv_if_lt (tgt := 48) hx hb dX7_appendFour_4 (by decide) (fun c_4 => ?_) (fun c_4 => ?_)
  · exact absurd c_4 (by decide)
  · refine lv_aload_n hx hb dX7_appendFour_7 rfl (lv_at hl 1 rfl) ?_
    refine va_get (ci := 6) (v := .int (N.1 61)) hx hb hts iX7 hown hK hP 6 rfl rfl 1 (by decide) (hts _ w_94) (fun _ h9 => h9) rfl dX7_appendFour_8 ?_
    refine lv_aload_n hx hb dX7_appendFour_11 rfl (lv_at hl 1 rfl) ?_
    refine va_get (ci := 6) (v := .ref (d 60)) hx hb hts iX7 hown hK hP 6 rfl rfl 0 (by decide) (hts _ w_93) (fun _ h9 => h9) rfl dX7_appendFour_12 ?_
    refine va_alen (v := nI (N.2.2.2 60)) hx hb hK hP 15 0 rfl rfl rfl dX7_appendFour_15 ?_
    refine za_icmp_ge (tgt := 48) hx hb dX7_appendFour_16 (by decide) (fun c_16 => ?_) (fun c_16 => ?_)
    · exact zc_rv hQ hx hb hr hlocks hK hP hD hS (by simp [zc_four, zc_put, zk_byte, zq_upd, c_4, c_16]) (Nat.le_refl _) (Nat.le_refl _) dX7_appendFour_48
    · refine lv_aload_n hx hb dX7_appendFour_19 rfl (lv_at hl 1 rfl) ?_
      refine va_get (ci := 6) (v := .ref (d 60)) hx hb hts iX7 hown hK hP 6 rfl rfl 0 (by decide) (hts _ w_93) (fun _ h9 => h9) rfl dX7_appendFour_20 ?_
      refine lv_aload_n hx hb dX7_appendFour_23 rfl (lv_at hl 1 rfl) ?_
      refine va_get (ci := 6) (v := .int (N.1 61)) hx hb hts iX7 hown hK hP 6 rfl rfl 1 (by decide) (hts _ w_94) (fun _ h9 => h9) rfl dX7_appendFour_24 ?_
      refine lv_iload_n hx hb dX7_appendFour_27 rfl (lv_at hl 2 rfl) ?_
      refine lv_iload_n hx hb dX7_appendFour_28 rfl (lv_at hl 0 rfl) ?_
      refine lv_iushr (v := (v.toUInt32 >>> ((24 : Int32).toUInt32 &&& Int32.toUInt32 31)).toInt32) hx hb dX7_appendFour_29 rfl ?_
      refine lv_i2b (v := ((v.toUInt32 >>> ((24 : Int32).toUInt32 &&& Int32.toUInt32 31)).toInt32).toInt8.toInt32) hx hb dX7_appendFour_30 rfl ?_
      refine va_bast (f := N.2.1 60) hx hb hK hP hD hS 15 0 rfl rfl (by obtain ⟨z, hz1, hz2⟩ := hI0.2.1; have hl9 := (zc_len hI0 60 (by decide)).2; exact zk_inn (z := z) (by rw [hz1]) c_16 (by omega) (show N.2.2.2 60 ≤ 400000 by omega)) dX7_appendFour_31 (fun H locs hP hD hS => ?_)
      have hP := zc_pa60 (X := N) hP
      have hD := zc_da60 (X := N) hD
      refine lv_aload_n hx hb dX7_appendFour_32 rfl (lv_at hl 1 rfl) ?_
      refine lv_dup hx hb dX7_appendFour_33 rfl ?_
      refine va_get (ci := 6) (v := .int (N.1 61)) hx hb hts iX7 hown hK hP 6 rfl rfl 1 (by decide) (hts _ w_94) (fun _ h9 => h9) rfl dX7_appendFour_34 ?_
      refine lv_iconst (v := 1) hx hb dX7_appendFour_37 (by decide) ?_
      refine lv_iadd hx hb dX7_appendFour_38 ?_
      refine va_put (ci := 6) (fs := zc_f6 o d (zc_a N 60 (N.1 61) (vp_nar .byte (((v.toUInt32 >>> ((24 : Int32).toUInt32 &&& Int32.toUInt32 31)).toInt32).toInt8.toInt32))).1) (v := .int ((N.1 61) + 1)) hx hb hts iX7 tyX7 tyX7_ok nmX7 hown hK hP hD hS 6 rfl rfl 1 (by decide) (hts _ w_94) (fun _ h9 => h9) rfl (tyX7_ok 1 (by decide)) rfl rfl (Nat.le_of_ble_eq_true rfl) dX7_appendFour_39 (fun H locs hP hD hS => ?_)
      have hP := zc_pf61 (X := zc_a N 60 (N.1 61) (vp_nar .byte (((v.toUInt32 >>> ((24 : Int32).toUInt32 &&& Int32.toUInt32 31)).toInt32).toInt8.toInt32))) hP
      have hD := zc_df61 (X := zc_a N 60 (N.1 61) (vp_nar .byte (((v.toUInt32 >>> ((24 : Int32).toUInt32 &&& Int32.toUInt32 31)).toInt32).toInt8.toInt32))) hD
      refine lv_iinc (v := 16) (lv' := [(2, .int 16), (0, .ref (o 6)), (1, .int v)]) hx hb dX7_appendFour_42 hl (k := 0) rfl (by decide) (by decide) rfl (fun ls hl => ?_)
      refine lv_goto (tgt := 3) hx hb dX7_appendFour_45 (by decide) ?_
      refine lv_iload_n hx hb dX7_appendFour_3 rfl (lv_at hl 0 rfl) ?_
      refine lv_if_lt (tgt := 48) hx hb dX7_appendFour_4 (by decide) (fun c_4x => ?_) (fun c_4x => ?_)
      · exact absurd c_4x (by decide)
      · refine lv_aload_n hx hb dX7_appendFour_7 rfl (lv_at hl 1 rfl) ?_
        refine va_get (ci := 6) (v := .int ((N.1 61) + 1)) hx hb hts iX7 hown hK hP 6 rfl rfl 1 (by decide) (hts _ w_94) (fun _ h9 => h9) rfl dX7_appendFour_8 ?_
        refine lv_aload_n hx hb dX7_appendFour_11 rfl (lv_at hl 1 rfl) ?_
        refine va_get (ci := 6) (v := .ref (d 60)) hx hb hts iX7 hown hK hP 6 rfl rfl 0 (by decide) (hts _ w_93) (fun _ h9 => h9) rfl dX7_appendFour_12 ?_
        refine va_alen (v := nI (N.2.2.2 60)) hx hb hK hP 15 0 rfl rfl rfl dX7_appendFour_15 ?_
        refine za_icmp_ge (tgt := 48) hx hb dX7_appendFour_16 (by decide) (fun c_16x => ?_) (fun c_16x => ?_)
        · exact zc_rv hQ hx hb hr hlocks hK hP hD hS (by simp [zc_four, zc_put, zk_byte, zq_upd, c_4, c_16, c_4x, c_16x]) (Nat.le_refl _) (Nat.le_refl _) dX7_appendFour_48
        · refine lv_aload_n hx hb dX7_appendFour_19 rfl (lv_at hl 1 rfl) ?_
          refine va_get (ci := 6) (v := .ref (d 60)) hx hb hts iX7 hown hK hP 6 rfl rfl 0 (by decide) (hts _ w_93) (fun _ h9 => h9) rfl dX7_appendFour_20 ?_
          refine lv_aload_n hx hb dX7_appendFour_23 rfl (lv_at hl 1 rfl) ?_
          refine va_get (ci := 6) (v := .int ((N.1 61) + 1)) hx hb hts iX7 hown hK hP 6 rfl rfl 1 (by decide) (hts _ w_94) (fun _ h9 => h9) rfl dX7_appendFour_24 ?_
          refine lv_iload_n hx hb dX7_appendFour_27 rfl (lv_at hl 2 rfl) ?_
          refine lv_iload_n hx hb dX7_appendFour_28 rfl (lv_at hl 0 rfl) ?_
          refine lv_iushr (v := (v.toUInt32 >>> ((16 : Int32).toUInt32 &&& Int32.toUInt32 31)).toInt32) hx hb dX7_appendFour_29 rfl ?_
          refine lv_i2b (v := ((v.toUInt32 >>> ((16 : Int32).toUInt32 &&& Int32.toUInt32 31)).toInt32).toInt8.toInt32) hx hb dX7_appendFour_30 rfl ?_
          refine va_bast (f := (zc_s (zc_a N 60 (N.1 61) (vp_nar .byte (((v.toUInt32 >>> ((24 : Int32).toUInt32 &&& Int32.toUInt32 31)).toInt32).toInt8.toInt32))) 61 ((N.1 61) + 1)).2.1 60) hx hb hK hP hD hS 15 0 rfl rfl (by obtain ⟨z, hz1, hz2⟩ := hI0.2.1; have hl9 := (zc_len hI0 60 (by decide)).2; exact zk_inn (z := z + 1) (by rw [hz1]; rw [nI_1]) c_16x (by omega) (show N.2.2.2 60 ≤ 400000 by omega)) dX7_appendFour_31 (fun H locs hP hD hS => ?_)
          have hP := zc_pa60 (X := zc_s (zc_a N 60 (N.1 61) (vp_nar .byte (((v.toUInt32 >>> ((24 : Int32).toUInt32 &&& Int32.toUInt32 31)).toInt32).toInt8.toInt32))) 61 ((N.1 61) + 1)) hP
          have hD := zc_da60 (X := zc_s (zc_a N 60 (N.1 61) (vp_nar .byte (((v.toUInt32 >>> ((24 : Int32).toUInt32 &&& Int32.toUInt32 31)).toInt32).toInt8.toInt32))) 61 ((N.1 61) + 1)) hD
          refine lv_aload_n hx hb dX7_appendFour_32 rfl (lv_at hl 1 rfl) ?_
          refine lv_dup hx hb dX7_appendFour_33 rfl ?_
          refine va_get (ci := 6) (v := .int ((N.1 61) + 1)) hx hb hts iX7 hown hK hP 6 rfl rfl 1 (by decide) (hts _ w_94) (fun _ h9 => h9) rfl dX7_appendFour_34 ?_
          refine lv_iconst (v := 1) hx hb dX7_appendFour_37 (by decide) ?_
          refine lv_iadd hx hb dX7_appendFour_38 ?_
          refine va_put (ci := 6) (fs := zc_f6 o d (zc_a (zc_s (zc_a N 60 (N.1 61) (vp_nar .byte (((v.toUInt32 >>> ((24 : Int32).toUInt32 &&& Int32.toUInt32 31)).toInt32).toInt8.toInt32))) 61 ((N.1 61) + 1)) 60 ((N.1 61) + 1) (vp_nar .byte (((v.toUInt32 >>> ((16 : Int32).toUInt32 &&& Int32.toUInt32 31)).toInt32).toInt8.toInt32))).1) (v := .int (((N.1 61) + 1) + 1)) hx hb hts iX7 tyX7 tyX7_ok nmX7 hown hK hP hD hS 6 rfl rfl 1 (by decide) (hts _ w_94) (fun _ h9 => h9) rfl (tyX7_ok 1 (by decide)) rfl rfl (Nat.le_of_ble_eq_true rfl) dX7_appendFour_39 (fun H locs hP hD hS => ?_)
          have hP := zc_pf61 (X := zc_a (zc_s (zc_a N 60 (N.1 61) (vp_nar .byte (((v.toUInt32 >>> ((24 : Int32).toUInt32 &&& Int32.toUInt32 31)).toInt32).toInt8.toInt32))) 61 ((N.1 61) + 1)) 60 ((N.1 61) + 1) (vp_nar .byte (((v.toUInt32 >>> ((16 : Int32).toUInt32 &&& Int32.toUInt32 31)).toInt32).toInt8.toInt32))) hP
          have hD := zc_df61 (X := zc_a (zc_s (zc_a N 60 (N.1 61) (vp_nar .byte (((v.toUInt32 >>> ((24 : Int32).toUInt32 &&& Int32.toUInt32 31)).toInt32).toInt8.toInt32))) 61 ((N.1 61) + 1)) 60 ((N.1 61) + 1) (vp_nar .byte (((v.toUInt32 >>> ((16 : Int32).toUInt32 &&& Int32.toUInt32 31)).toInt32).toInt8.toInt32))) hD
          refine lv_iinc (v := 8) (lv' := [(2, .int 8), (0, .ref (o 6)), (1, .int v)]) hx hb dX7_appendFour_42 hl (k := 0) rfl (by decide) (by decide) rfl (fun ls hl => ?_)
          refine lv_goto (tgt := 3) hx hb dX7_appendFour_45 (by decide) ?_
          refine lv_iload_n hx hb dX7_appendFour_3 rfl (lv_at hl 0 rfl) ?_
          refine lv_if_lt (tgt := 48) hx hb dX7_appendFour_4 (by decide) (fun c_4xx => ?_) (fun c_4xx => ?_)
          · exact absurd c_4xx (by decide)
          · refine lv_aload_n hx hb dX7_appendFour_7 rfl (lv_at hl 1 rfl) ?_
            refine va_get (ci := 6) (v := .int (((N.1 61) + 1) + 1)) hx hb hts iX7 hown hK hP 6 rfl rfl 1 (by decide) (hts _ w_94) (fun _ h9 => h9) rfl dX7_appendFour_8 ?_
            refine lv_aload_n hx hb dX7_appendFour_11 rfl (lv_at hl 1 rfl) ?_
            refine va_get (ci := 6) (v := .ref (d 60)) hx hb hts iX7 hown hK hP 6 rfl rfl 0 (by decide) (hts _ w_93) (fun _ h9 => h9) rfl dX7_appendFour_12 ?_
            refine va_alen (v := nI (N.2.2.2 60)) hx hb hK hP 15 0 rfl rfl rfl dX7_appendFour_15 ?_
            refine za_icmp_ge (tgt := 48) hx hb dX7_appendFour_16 (by decide) (fun c_16xx => ?_) (fun c_16xx => ?_)
            · exact zc_rv hQ hx hb hr hlocks hK hP hD hS (by simp [zc_four, zc_put, zk_byte, zq_upd, c_4, c_16, c_4x, c_16x, c_4xx, c_16xx]) (Nat.le_refl _) (Nat.le_refl _) dX7_appendFour_48
            · refine lv_aload_n hx hb dX7_appendFour_19 rfl (lv_at hl 1 rfl) ?_
              refine va_get (ci := 6) (v := .ref (d 60)) hx hb hts iX7 hown hK hP 6 rfl rfl 0 (by decide) (hts _ w_93) (fun _ h9 => h9) rfl dX7_appendFour_20 ?_
              refine lv_aload_n hx hb dX7_appendFour_23 rfl (lv_at hl 1 rfl) ?_
              refine va_get (ci := 6) (v := .int (((N.1 61) + 1) + 1)) hx hb hts iX7 hown hK hP 6 rfl rfl 1 (by decide) (hts _ w_94) (fun _ h9 => h9) rfl dX7_appendFour_24 ?_
              refine lv_iload_n hx hb dX7_appendFour_27 rfl (lv_at hl 2 rfl) ?_
              refine lv_iload_n hx hb dX7_appendFour_28 rfl (lv_at hl 0 rfl) ?_
              refine lv_iushr (v := (v.toUInt32 >>> ((8 : Int32).toUInt32 &&& Int32.toUInt32 31)).toInt32) hx hb dX7_appendFour_29 rfl ?_
              refine lv_i2b (v := ((v.toUInt32 >>> ((8 : Int32).toUInt32 &&& Int32.toUInt32 31)).toInt32).toInt8.toInt32) hx hb dX7_appendFour_30 rfl ?_
              refine va_bast (f := (zc_s (zc_a (zc_s (zc_a N 60 (N.1 61) (vp_nar .byte (((v.toUInt32 >>> ((24 : Int32).toUInt32 &&& Int32.toUInt32 31)).toInt32).toInt8.toInt32))) 61 ((N.1 61) + 1)) 60 ((N.1 61) + 1) (vp_nar .byte (((v.toUInt32 >>> ((16 : Int32).toUInt32 &&& Int32.toUInt32 31)).toInt32).toInt8.toInt32))) 61 (((N.1 61) + 1) + 1)).2.1 60) hx hb hK hP hD hS 15 0 rfl rfl (by obtain ⟨z, hz1, hz2⟩ := hI0.2.1; have hl9 := (zc_len hI0 60 (by decide)).2; exact zk_inn (z := z + 1 + 1) (by rw [hz1]; rw [nI_1, nI_1]) c_16xx (by omega) (show N.2.2.2 60 ≤ 400000 by omega)) dX7_appendFour_31 (fun H locs hP hD hS => ?_)
              have hP := zc_pa60 (X := zc_s (zc_a (zc_s (zc_a N 60 (N.1 61) (vp_nar .byte (((v.toUInt32 >>> ((24 : Int32).toUInt32 &&& Int32.toUInt32 31)).toInt32).toInt8.toInt32))) 61 ((N.1 61) + 1)) 60 ((N.1 61) + 1) (vp_nar .byte (((v.toUInt32 >>> ((16 : Int32).toUInt32 &&& Int32.toUInt32 31)).toInt32).toInt8.toInt32))) 61 (((N.1 61) + 1) + 1)) hP
              have hD := zc_da60 (X := zc_s (zc_a (zc_s (zc_a N 60 (N.1 61) (vp_nar .byte (((v.toUInt32 >>> ((24 : Int32).toUInt32 &&& Int32.toUInt32 31)).toInt32).toInt8.toInt32))) 61 ((N.1 61) + 1)) 60 ((N.1 61) + 1) (vp_nar .byte (((v.toUInt32 >>> ((16 : Int32).toUInt32 &&& Int32.toUInt32 31)).toInt32).toInt8.toInt32))) 61 (((N.1 61) + 1) + 1)) hD
              refine lv_aload_n hx hb dX7_appendFour_32 rfl (lv_at hl 1 rfl) ?_
              refine lv_dup hx hb dX7_appendFour_33 rfl ?_
              refine va_get (ci := 6) (v := .int (((N.1 61) + 1) + 1)) hx hb hts iX7 hown hK hP 6 rfl rfl 1 (by decide) (hts _ w_94) (fun _ h9 => h9) rfl dX7_appendFour_34 ?_
              refine lv_iconst (v := 1) hx hb dX7_appendFour_37 (by decide) ?_
              refine lv_iadd hx hb dX7_appendFour_38 ?_
              refine va_put (ci := 6) (fs := zc_f6 o d (zc_a (zc_s (zc_a (zc_s (zc_a N 60 (N.1 61) (vp_nar .byte (((v.toUInt32 >>> ((24 : Int32).toUInt32 &&& Int32.toUInt32 31)).toInt32).toInt8.toInt32))) 61 ((N.1 61) + 1)) 60 ((N.1 61) + 1) (vp_nar .byte (((v.toUInt32 >>> ((16 : Int32).toUInt32 &&& Int32.toUInt32 31)).toInt32).toInt8.toInt32))) 61 (((N.1 61) + 1) + 1)) 60 (((N.1 61) + 1) + 1) (vp_nar .byte (((v.toUInt32 >>> ((8 : Int32).toUInt32 &&& Int32.toUInt32 31)).toInt32).toInt8.toInt32))).1) (v := .int ((((N.1 61) + 1) + 1) + 1)) hx hb hts iX7 tyX7 tyX7_ok nmX7 hown hK hP hD hS 6 rfl rfl 1 (by decide) (hts _ w_94) (fun _ h9 => h9) rfl (tyX7_ok 1 (by decide)) rfl rfl (Nat.le_of_ble_eq_true rfl) dX7_appendFour_39 (fun H locs hP hD hS => ?_)
              have hP := zc_pf61 (X := zc_a (zc_s (zc_a (zc_s (zc_a N 60 (N.1 61) (vp_nar .byte (((v.toUInt32 >>> ((24 : Int32).toUInt32 &&& Int32.toUInt32 31)).toInt32).toInt8.toInt32))) 61 ((N.1 61) + 1)) 60 ((N.1 61) + 1) (vp_nar .byte (((v.toUInt32 >>> ((16 : Int32).toUInt32 &&& Int32.toUInt32 31)).toInt32).toInt8.toInt32))) 61 (((N.1 61) + 1) + 1)) 60 (((N.1 61) + 1) + 1) (vp_nar .byte (((v.toUInt32 >>> ((8 : Int32).toUInt32 &&& Int32.toUInt32 31)).toInt32).toInt8.toInt32))) hP
              have hD := zc_df61 (X := zc_a (zc_s (zc_a (zc_s (zc_a N 60 (N.1 61) (vp_nar .byte (((v.toUInt32 >>> ((24 : Int32).toUInt32 &&& Int32.toUInt32 31)).toInt32).toInt8.toInt32))) 61 ((N.1 61) + 1)) 60 ((N.1 61) + 1) (vp_nar .byte (((v.toUInt32 >>> ((16 : Int32).toUInt32 &&& Int32.toUInt32 31)).toInt32).toInt8.toInt32))) 61 (((N.1 61) + 1) + 1)) 60 (((N.1 61) + 1) + 1) (vp_nar .byte (((v.toUInt32 >>> ((8 : Int32).toUInt32 &&& Int32.toUInt32 31)).toInt32).toInt8.toInt32))) hD
              refine lv_iinc (v := 0) (lv' := [(2, .int 0), (0, .ref (o 6)), (1, .int v)]) hx hb dX7_appendFour_42 hl (k := 0) rfl (by decide) (by decide) rfl (fun ls hl => ?_)
              refine lv_goto (tgt := 3) hx hb dX7_appendFour_45 (by decide) ?_
              refine lv_iload_n hx hb dX7_appendFour_3 rfl (lv_at hl 0 rfl) ?_
              refine lv_if_lt (tgt := 48) hx hb dX7_appendFour_4 (by decide) (fun c_4xxx => ?_) (fun c_4xxx => ?_)
              · exact absurd c_4xxx (by decide)
              · refine lv_aload_n hx hb dX7_appendFour_7 rfl (lv_at hl 1 rfl) ?_
                refine va_get (ci := 6) (v := .int ((((N.1 61) + 1) + 1) + 1)) hx hb hts iX7 hown hK hP 6 rfl rfl 1 (by decide) (hts _ w_94) (fun _ h9 => h9) rfl dX7_appendFour_8 ?_
                refine lv_aload_n hx hb dX7_appendFour_11 rfl (lv_at hl 1 rfl) ?_
                refine va_get (ci := 6) (v := .ref (d 60)) hx hb hts iX7 hown hK hP 6 rfl rfl 0 (by decide) (hts _ w_93) (fun _ h9 => h9) rfl dX7_appendFour_12 ?_
                refine va_alen (v := nI (N.2.2.2 60)) hx hb hK hP 15 0 rfl rfl rfl dX7_appendFour_15 ?_
                refine za_icmp_ge (tgt := 48) hx hb dX7_appendFour_16 (by decide) (fun c_16xxx => ?_) (fun c_16xxx => ?_)
                · exact zc_rv hQ hx hb hr hlocks hK hP hD hS (by simp [zc_four, zc_put, zk_byte, zq_upd, c_4, c_16, c_4x, c_16x, c_4xx, c_16xx, c_4xxx, c_16xxx]) (Nat.le_refl _) (Nat.le_refl _) dX7_appendFour_48
                · refine lv_aload_n hx hb dX7_appendFour_19 rfl (lv_at hl 1 rfl) ?_
                  refine va_get (ci := 6) (v := .ref (d 60)) hx hb hts iX7 hown hK hP 6 rfl rfl 0 (by decide) (hts _ w_93) (fun _ h9 => h9) rfl dX7_appendFour_20 ?_
                  refine lv_aload_n hx hb dX7_appendFour_23 rfl (lv_at hl 1 rfl) ?_
                  refine va_get (ci := 6) (v := .int ((((N.1 61) + 1) + 1) + 1)) hx hb hts iX7 hown hK hP 6 rfl rfl 1 (by decide) (hts _ w_94) (fun _ h9 => h9) rfl dX7_appendFour_24 ?_
                  refine lv_iload_n hx hb dX7_appendFour_27 rfl (lv_at hl 2 rfl) ?_
                  refine lv_iload_n hx hb dX7_appendFour_28 rfl (lv_at hl 0 rfl) ?_
                  refine lv_iushr (v := (v.toUInt32 >>> ((0 : Int32).toUInt32 &&& Int32.toUInt32 31)).toInt32) hx hb dX7_appendFour_29 rfl ?_
                  refine lv_i2b (v := ((v.toUInt32 >>> ((0 : Int32).toUInt32 &&& Int32.toUInt32 31)).toInt32).toInt8.toInt32) hx hb dX7_appendFour_30 rfl ?_
                  refine va_bast (f := (zc_s (zc_a (zc_s (zc_a (zc_s (zc_a N 60 (N.1 61) (vp_nar .byte (((v.toUInt32 >>> ((24 : Int32).toUInt32 &&& Int32.toUInt32 31)).toInt32).toInt8.toInt32))) 61 ((N.1 61) + 1)) 60 ((N.1 61) + 1) (vp_nar .byte (((v.toUInt32 >>> ((16 : Int32).toUInt32 &&& Int32.toUInt32 31)).toInt32).toInt8.toInt32))) 61 (((N.1 61) + 1) + 1)) 60 (((N.1 61) + 1) + 1) (vp_nar .byte (((v.toUInt32 >>> ((8 : Int32).toUInt32 &&& Int32.toUInt32 31)).toInt32).toInt8.toInt32))) 61 ((((N.1 61) + 1) + 1) + 1)).2.1 60) hx hb hK hP hD hS 15 0 rfl rfl (by obtain ⟨z, hz1, hz2⟩ := hI0.2.1; have hl9 := (zc_len hI0 60 (by decide)).2; exact zk_inn (z := z + 1 + 1 + 1) (by rw [hz1]; rw [nI_1, nI_1, nI_1]) c_16xxx (by omega) (show N.2.2.2 60 ≤ 400000 by omega)) dX7_appendFour_31 (fun H locs hP hD hS => ?_)
                  have hP := zc_pa60 (X := zc_s (zc_a (zc_s (zc_a (zc_s (zc_a N 60 (N.1 61) (vp_nar .byte (((v.toUInt32 >>> ((24 : Int32).toUInt32 &&& Int32.toUInt32 31)).toInt32).toInt8.toInt32))) 61 ((N.1 61) + 1)) 60 ((N.1 61) + 1) (vp_nar .byte (((v.toUInt32 >>> ((16 : Int32).toUInt32 &&& Int32.toUInt32 31)).toInt32).toInt8.toInt32))) 61 (((N.1 61) + 1) + 1)) 60 (((N.1 61) + 1) + 1) (vp_nar .byte (((v.toUInt32 >>> ((8 : Int32).toUInt32 &&& Int32.toUInt32 31)).toInt32).toInt8.toInt32))) 61 ((((N.1 61) + 1) + 1) + 1)) hP
                  have hD := zc_da60 (X := zc_s (zc_a (zc_s (zc_a (zc_s (zc_a N 60 (N.1 61) (vp_nar .byte (((v.toUInt32 >>> ((24 : Int32).toUInt32 &&& Int32.toUInt32 31)).toInt32).toInt8.toInt32))) 61 ((N.1 61) + 1)) 60 ((N.1 61) + 1) (vp_nar .byte (((v.toUInt32 >>> ((16 : Int32).toUInt32 &&& Int32.toUInt32 31)).toInt32).toInt8.toInt32))) 61 (((N.1 61) + 1) + 1)) 60 (((N.1 61) + 1) + 1) (vp_nar .byte (((v.toUInt32 >>> ((8 : Int32).toUInt32 &&& Int32.toUInt32 31)).toInt32).toInt8.toInt32))) 61 ((((N.1 61) + 1) + 1) + 1)) hD
                  refine lv_aload_n hx hb dX7_appendFour_32 rfl (lv_at hl 1 rfl) ?_
                  refine lv_dup hx hb dX7_appendFour_33 rfl ?_
                  refine va_get (ci := 6) (v := .int ((((N.1 61) + 1) + 1) + 1)) hx hb hts iX7 hown hK hP 6 rfl rfl 1 (by decide) (hts _ w_94) (fun _ h9 => h9) rfl dX7_appendFour_34 ?_
                  refine lv_iconst (v := 1) hx hb dX7_appendFour_37 (by decide) ?_
                  refine lv_iadd hx hb dX7_appendFour_38 ?_
                  refine va_put (ci := 6) (fs := zc_f6 o d (zc_a (zc_s (zc_a (zc_s (zc_a (zc_s (zc_a N 60 (N.1 61) (vp_nar .byte (((v.toUInt32 >>> ((24 : Int32).toUInt32 &&& Int32.toUInt32 31)).toInt32).toInt8.toInt32))) 61 ((N.1 61) + 1)) 60 ((N.1 61) + 1) (vp_nar .byte (((v.toUInt32 >>> ((16 : Int32).toUInt32 &&& Int32.toUInt32 31)).toInt32).toInt8.toInt32))) 61 (((N.1 61) + 1) + 1)) 60 (((N.1 61) + 1) + 1) (vp_nar .byte (((v.toUInt32 >>> ((8 : Int32).toUInt32 &&& Int32.toUInt32 31)).toInt32).toInt8.toInt32))) 61 ((((N.1 61) + 1) + 1) + 1)) 60 ((((N.1 61) + 1) + 1) + 1) (vp_nar .byte (((v.toUInt32 >>> ((0 : Int32).toUInt32 &&& Int32.toUInt32 31)).toInt32).toInt8.toInt32))).1) (v := .int (((((N.1 61) + 1) + 1) + 1) + 1)) hx hb hts iX7 tyX7 tyX7_ok nmX7 hown hK hP hD hS 6 rfl rfl 1 (by decide) (hts _ w_94) (fun _ h9 => h9) rfl (tyX7_ok 1 (by decide)) rfl rfl (Nat.le_of_ble_eq_true rfl) dX7_appendFour_39 (fun H locs hP hD hS => ?_)
                  have hP := zc_pf61 (X := zc_a (zc_s (zc_a (zc_s (zc_a (zc_s (zc_a N 60 (N.1 61) (vp_nar .byte (((v.toUInt32 >>> ((24 : Int32).toUInt32 &&& Int32.toUInt32 31)).toInt32).toInt8.toInt32))) 61 ((N.1 61) + 1)) 60 ((N.1 61) + 1) (vp_nar .byte (((v.toUInt32 >>> ((16 : Int32).toUInt32 &&& Int32.toUInt32 31)).toInt32).toInt8.toInt32))) 61 (((N.1 61) + 1) + 1)) 60 (((N.1 61) + 1) + 1) (vp_nar .byte (((v.toUInt32 >>> ((8 : Int32).toUInt32 &&& Int32.toUInt32 31)).toInt32).toInt8.toInt32))) 61 ((((N.1 61) + 1) + 1) + 1)) 60 ((((N.1 61) + 1) + 1) + 1) (vp_nar .byte (((v.toUInt32 >>> ((0 : Int32).toUInt32 &&& Int32.toUInt32 31)).toInt32).toInt8.toInt32))) hP
                  have hD := zc_df61 (X := zc_a (zc_s (zc_a (zc_s (zc_a (zc_s (zc_a N 60 (N.1 61) (vp_nar .byte (((v.toUInt32 >>> ((24 : Int32).toUInt32 &&& Int32.toUInt32 31)).toInt32).toInt8.toInt32))) 61 ((N.1 61) + 1)) 60 ((N.1 61) + 1) (vp_nar .byte (((v.toUInt32 >>> ((16 : Int32).toUInt32 &&& Int32.toUInt32 31)).toInt32).toInt8.toInt32))) 61 (((N.1 61) + 1) + 1)) 60 (((N.1 61) + 1) + 1) (vp_nar .byte (((v.toUInt32 >>> ((8 : Int32).toUInt32 &&& Int32.toUInt32 31)).toInt32).toInt8.toInt32))) 61 ((((N.1 61) + 1) + 1) + 1)) 60 ((((N.1 61) + 1) + 1) + 1) (vp_nar .byte (((v.toUInt32 >>> ((0 : Int32).toUInt32 &&& Int32.toUInt32 31)).toInt32).toInt8.toInt32))) hD
                  refine lv_iinc (v := (-8)) (lv' := [(2, .int (-8)), (0, .ref (o 6)), (1, .int v)]) hx hb dX7_appendFour_42 hl (k := 0) rfl (by decide) (by decide) rfl (fun ls hl => ?_)
                  refine lv_goto (tgt := 3) hx hb dX7_appendFour_45 (by decide) ?_
                  refine lv_iload_n hx hb dX7_appendFour_3 rfl (lv_at hl 0 rfl) ?_
                  refine lv_if_lt (tgt := 48) hx hb dX7_appendFour_4 (by decide) (fun c_4xxxx => ?_) (fun c_4xxxx => ?_)
                  · exact zc_rv hQ hx hb hr hlocks hK hP hD hS (by simp [zc_four, zc_put, zk_byte, zq_upd, c_4, c_16, c_4x, c_16x, c_4xx, c_16xx, c_4xxx, c_16xxx, c_4xxxx]) (Nat.le_refl _) (Nat.le_refl _) dX7_appendFour_48
                  · exact absurd c_4xxxx (by decide)
set_option maxHeartbeats 4000000 in
set_option maxRecDepth 100000 in
theorem kX0_appendCode (l : Launch) (g : za_G) (E : za_E) (o d : Nat → Nat) (N : zc_N) (c : Int32) (hI : zc_I N) : zb_Cv l g E yX0_appendCode cX0_appendCode 2 3 (zc_rc N) (zc_rs N) (zc_L (zc_appendCode N c) - zc_L N) (2 * (zc_L (zc_appendCode N c) - zc_L N)) [.ref (o 0), .int c] (zc_ws g o d N) (fun u : zc_N × (Nat → Nat) => u.1 = zc_appendCode N c) (fun u => zc_ws g o u.2 u.1) := by
  refine zb_begin (by decide) (Nat.le_of_ble_eq_true rfl) RX0 rfl ?_
  intro p e s m args below meth co A ls Q H locs C hQ hr hlocks hnm hS hP hD hl
  obtain ⟨hx, hb, hml, hown, hts, hK, hA, hE⟩ := id C
  have hl : lv_has ls 2 [(0, .ref (o 0)), (1, .int c)] := hl
  have hc : zb_c N N 0 0 := zb_c.rf
  revert hc
  refine (fun (z9 : ∀ cells slots : Nat, zb_c N N cells slots → W p l e (za_R 3 (zc_rc N) (zc_rs N)) s m args below meth co H locs cells slots Q (F0 m 0 ls [])) hc => z9 0 0 hc) (fun cells slots hc => ?_)
  refine lv_iload_n hx hb dX0_appendCode_0 rfl (lv_at hl 1 rfl) ?_
  refine lv_sipush (v := 128) hx hb dX0_appendCode_1 (by decide) ?_
  refine za_icmp_ge (tgt := 13) hx hb dX0_appendCode_4 (by decide) (fun c_4 => ?_) (fun c_4 => ?_)
  · refine lv_iload_n hx hb dX0_appendCode_13 rfl (lv_at hl 1 rfl) ?_
    refine lv_sipush (v := 2048) hx hb dX0_appendCode_14 (by decide) ?_
    refine za_icmp_ge (tgt := 35) hx hb dX0_appendCode_17 (by decide) (fun c_17 => ?_) (fun c_17 => ?_)
    · refine lv_iload_n hx hb dX0_appendCode_35 rfl (lv_at hl 1 rfl) ?_
      refine lv_ldc (v := 65536) hx hb hown (hts _ w_449) dX0_appendCode_36 ?_
      refine za_icmp_ge (tgt := 56) hx hb dX0_appendCode_38 (by decide) (fun c_38 => ?_) (fun c_38 => ?_)
      · refine lv_aload_n hx hb dX0_appendCode_56 rfl (lv_at hl 0 rfl) ?_
        refine lv_sipush (v := 240) hx hb dX0_appendCode_57 (by decide) ?_
        refine lv_iload_n hx hb dX0_appendCode_60 rfl (lv_at hl 1 rfl) ?_
        refine lv_bipush (v := 18) hx hb dX0_appendCode_61 (by decide) ?_
        refine lv_ishr hx hb dX0_appendCode_63 ?_
        refine lv_ior hx hb dX0_appendCode_64 ?_
        refine zc_callv C hP hD hS hc (zl_append _) (zb_runV C hP hD hS [0, 1, 2, 3, 4, 5, 6, 7, 8, 9, 10, 11, 12, 13, 14, 15, 16] rfl (by decide) rfl (kX0_append l g E o d N ((240 : Int32) ||| (c >>> ((18 : Int32) &&& 31))) hI ) w_632 mX0_append 0 rfl rfl rfl rfl hl.1 rfl (Nat.le_of_ble_eq_true rfl) dX0_appendCode_65 ⟨Nat.le_of_ble_eq_true rfl, Nat.le_of_ble_eq_true rfl⟩ (hc.room (zc_L_le hI))) (fun N1 d1 H locs cells slots hN1 hc hP hD hS => ?_)
        have hI : zc_I N1 := by rw [hN1]; exact zi_append hI _
        refine lv_aload_n hx hb dX0_appendCode_68 rfl (lv_at hl 0 rfl) ?_
        refine lv_sipush (v := 128) hx hb dX0_appendCode_69 (by decide) ?_
        refine lv_iload_n hx hb dX0_appendCode_72 rfl (lv_at hl 1 rfl) ?_
        refine lv_bipush (v := 12) hx hb dX0_appendCode_73 (by decide) ?_
        refine lv_ishr hx hb dX0_appendCode_75 ?_
        refine lv_bipush (v := 63) hx hb dX0_appendCode_76 (by decide) ?_
        refine lv_iand hx hb dX0_appendCode_78 ?_
        refine lv_ior hx hb dX0_appendCode_79 ?_
        refine zc_callv C hP hD hS hc (zl_append _) (zb_runV C hP hD hS [0, 1, 2, 3, 4, 5, 6, 7, 8, 9, 10, 11, 12, 13, 14, 15, 16] rfl (by decide) rfl (kX0_append l g E o d1 N1 ((128 : Int32) ||| ((c >>> ((12 : Int32) &&& 31)) &&& 63)) hI ) w_632 mX0_append 0 rfl rfl rfl rfl hl.1 rfl (Nat.le_of_ble_eq_true rfl) dX0_appendCode_80 ⟨Nat.le_of_ble_eq_true rfl, Nat.le_of_ble_eq_true rfl⟩ (hc.room (zc_L_le hI))) (fun N2 d2 H locs cells slots hN2 hc hP hD hS => ?_)
        have hI : zc_I N2 := by rw [hN2]; exact zi_append hI _
        refine lv_aload_n hx hb dX0_appendCode_83 rfl (lv_at hl 0 rfl) ?_
        refine lv_sipush (v := 128) hx hb dX0_appendCode_84 (by decide) ?_
        refine lv_iload_n hx hb dX0_appendCode_87 rfl (lv_at hl 1 rfl) ?_
        refine lv_bipush (v := 6) hx hb dX0_appendCode_88 (by decide) ?_
        refine lv_ishr hx hb dX0_appendCode_90 ?_
        refine lv_bipush (v := 63) hx hb dX0_appendCode_91 (by decide) ?_
        refine lv_iand hx hb dX0_appendCode_93 ?_
        refine lv_ior hx hb dX0_appendCode_94 ?_
        refine zc_callv C hP hD hS hc (zl_append _) (zb_runV C hP hD hS [0, 1, 2, 3, 4, 5, 6, 7, 8, 9, 10, 11, 12, 13, 14, 15, 16] rfl (by decide) rfl (kX0_append l g E o d2 N2 ((128 : Int32) ||| ((c >>> ((6 : Int32) &&& 31)) &&& 63)) hI ) w_632 mX0_append 0 rfl rfl rfl rfl hl.1 rfl (Nat.le_of_ble_eq_true rfl) dX0_appendCode_95 ⟨Nat.le_of_ble_eq_true rfl, Nat.le_of_ble_eq_true rfl⟩ (hc.room (zc_L_le hI))) (fun N3 d3 H locs cells slots hN3 hc hP hD hS => ?_)
        have hI : zc_I N3 := by rw [hN3]; exact zi_append hI _
        refine lv_aload_n hx hb dX0_appendCode_98 rfl (lv_at hl 0 rfl) ?_
        refine lv_sipush (v := 128) hx hb dX0_appendCode_99 (by decide) ?_
        refine lv_iload_n hx hb dX0_appendCode_102 rfl (lv_at hl 1 rfl) ?_
        refine lv_bipush (v := 63) hx hb dX0_appendCode_103 (by decide) ?_
        refine lv_iand hx hb dX0_appendCode_105 ?_
        refine lv_ior hx hb dX0_appendCode_106 ?_
        refine zc_callv C hP hD hS hc (zl_append _) (zb_runV C hP hD hS [0, 1, 2, 3, 4, 5, 6, 7, 8, 9, 10, 11, 12, 13, 14, 15, 16] rfl (by decide) rfl (kX0_append l g E o d3 N3 ((128 : Int32) ||| (c &&& 63)) hI ) w_632 mX0_append 0 rfl rfl rfl rfl hl.1 rfl (Nat.le_of_ble_eq_true rfl) dX0_appendCode_107 ⟨Nat.le_of_ble_eq_true rfl, Nat.le_of_ble_eq_true rfl⟩ (hc.room (zc_L_le hI))) (fun N4 d4 H locs cells slots hN4 hc hP hD hS => ?_)
        have hI : zc_I N4 := by rw [hN4]; exact zi_append hI _
        subst hN4
        subst hN3
        subst hN2
        subst hN1
        exact zc_rvg hQ hx hb hr hlocks hK hP hD hS hc (by simp [zc_appendCode, zq_upd, c_4, c_17, c_38]) dX0_appendCode_110
      · refine lv_aload_n hx hb dX0_appendCode_41 rfl (lv_at hl 0 rfl) ?_
        refine lv_sipush (v := 224) hx hb dX0_appendCode_42 (by decide) ?_
        refine lv_iload_n hx hb dX0_appendCode_45 rfl (lv_at hl 1 rfl) ?_
        refine lv_bipush (v := 12) hx hb dX0_appendCode_46 (by decide) ?_
        refine lv_ishr hx hb dX0_appendCode_48 ?_
        refine lv_ior hx hb dX0_appendCode_49 ?_
        refine zc_callv C hP hD hS hc (zl_append _) (zb_runV C hP hD hS [0, 1, 2, 3, 4, 5, 6, 7, 8, 9, 10, 11, 12, 13, 14, 15, 16] rfl (by decide) rfl (kX0_append l g E o d N ((224 : Int32) ||| (c >>> ((12 : Int32) &&& 31))) hI ) w_632 mX0_append 0 rfl rfl rfl rfl hl.1 rfl (Nat.le_of_ble_eq_true rfl) dX0_appendCode_50 ⟨Nat.le_of_ble_eq_true rfl, Nat.le_of_ble_eq_true rfl⟩ (hc.room (zc_L_le hI))) (fun N5 d5 H locs cells slots hN5 hc hP hD hS => ?_)
        have hI : zc_I N5 := by rw [hN5]; exact zi_append hI _
        refine lv_goto (tgt := 83) hx hb dX0_appendCode_53 (by decide) ?_
        refine lv_aload_n hx hb dX0_appendCode_83 rfl (lv_at hl 0 rfl) ?_
        refine lv_sipush (v := 128) hx hb dX0_appendCode_84 (by decide) ?_
        refine lv_iload_n hx hb dX0_appendCode_87 rfl (lv_at hl 1 rfl) ?_
        refine lv_bipush (v := 6) hx hb dX0_appendCode_88 (by decide) ?_
        refine lv_ishr hx hb dX0_appendCode_90 ?_
        refine lv_bipush (v := 63) hx hb dX0_appendCode_91 (by decide) ?_
        refine lv_iand hx hb dX0_appendCode_93 ?_
        refine lv_ior hx hb dX0_appendCode_94 ?_
        refine zc_callv C hP hD hS hc (zl_append _) (zb_runV C hP hD hS [0, 1, 2, 3, 4, 5, 6, 7, 8, 9, 10, 11, 12, 13, 14, 15, 16] rfl (by decide) rfl (kX0_append l g E o d5 N5 ((128 : Int32) ||| ((c >>> ((6 : Int32) &&& 31)) &&& 63)) hI ) w_632 mX0_append 0 rfl rfl rfl rfl hl.1 rfl (Nat.le_of_ble_eq_true rfl) dX0_appendCode_95 ⟨Nat.le_of_ble_eq_true rfl, Nat.le_of_ble_eq_true rfl⟩ (hc.room (zc_L_le hI))) (fun N6 d6 H locs cells slots hN6 hc hP hD hS => ?_)
        have hI : zc_I N6 := by rw [hN6]; exact zi_append hI _
        refine lv_aload_n hx hb dX0_appendCode_98 rfl (lv_at hl 0 rfl) ?_
        refine lv_sipush (v := 128) hx hb dX0_appendCode_99 (by decide) ?_
        refine lv_iload_n hx hb dX0_appendCode_102 rfl (lv_at hl 1 rfl) ?_
        refine lv_bipush (v := 63) hx hb dX0_appendCode_103 (by decide) ?_
        refine lv_iand hx hb dX0_appendCode_105 ?_
        refine lv_ior hx hb dX0_appendCode_106 ?_
        refine zc_callv C hP hD hS hc (zl_append _) (zb_runV C hP hD hS [0, 1, 2, 3, 4, 5, 6, 7, 8, 9, 10, 11, 12, 13, 14, 15, 16] rfl (by decide) rfl (kX0_append l g E o d6 N6 ((128 : Int32) ||| (c &&& 63)) hI ) w_632 mX0_append 0 rfl rfl rfl rfl hl.1 rfl (Nat.le_of_ble_eq_true rfl) dX0_appendCode_107 ⟨Nat.le_of_ble_eq_true rfl, Nat.le_of_ble_eq_true rfl⟩ (hc.room (zc_L_le hI))) (fun N7 d7 H locs cells slots hN7 hc hP hD hS => ?_)
        have hI : zc_I N7 := by rw [hN7]; exact zi_append hI _
        subst hN7
        subst hN6
        subst hN5
        exact zc_rvg hQ hx hb hr hlocks hK hP hD hS hc (by simp [zc_appendCode, zq_upd, c_4, c_17, c_38]) dX0_appendCode_110
    · refine lv_aload_n hx hb dX0_appendCode_20 rfl (lv_at hl 0 rfl) ?_
      refine lv_sipush (v := 192) hx hb dX0_appendCode_21 (by decide) ?_
      refine lv_iload_n hx hb dX0_appendCode_24 rfl (lv_at hl 1 rfl) ?_
      refine lv_bipush (v := 6) hx hb dX0_appendCode_25 (by decide) ?_
      refine lv_ishr hx hb dX0_appendCode_27 ?_
      refine lv_ior hx hb dX0_appendCode_28 ?_
      refine zc_callv C hP hD hS hc (zl_append _) (zb_runV C hP hD hS [0, 1, 2, 3, 4, 5, 6, 7, 8, 9, 10, 11, 12, 13, 14, 15, 16] rfl (by decide) rfl (kX0_append l g E o d N ((192 : Int32) ||| (c >>> ((6 : Int32) &&& 31))) hI ) w_632 mX0_append 0 rfl rfl rfl rfl hl.1 rfl (Nat.le_of_ble_eq_true rfl) dX0_appendCode_29 ⟨Nat.le_of_ble_eq_true rfl, Nat.le_of_ble_eq_true rfl⟩ (hc.room (zc_L_le hI))) (fun N8 d8 H locs cells slots hN8 hc hP hD hS => ?_)
      have hI : zc_I N8 := by rw [hN8]; exact zi_append hI _
      refine lv_goto (tgt := 98) hx hb dX0_appendCode_32 (by decide) ?_
      refine lv_aload_n hx hb dX0_appendCode_98 rfl (lv_at hl 0 rfl) ?_
      refine lv_sipush (v := 128) hx hb dX0_appendCode_99 (by decide) ?_
      refine lv_iload_n hx hb dX0_appendCode_102 rfl (lv_at hl 1 rfl) ?_
      refine lv_bipush (v := 63) hx hb dX0_appendCode_103 (by decide) ?_
      refine lv_iand hx hb dX0_appendCode_105 ?_
      refine lv_ior hx hb dX0_appendCode_106 ?_
      refine zc_callv C hP hD hS hc (zl_append _) (zb_runV C hP hD hS [0, 1, 2, 3, 4, 5, 6, 7, 8, 9, 10, 11, 12, 13, 14, 15, 16] rfl (by decide) rfl (kX0_append l g E o d8 N8 ((128 : Int32) ||| (c &&& 63)) hI ) w_632 mX0_append 0 rfl rfl rfl rfl hl.1 rfl (Nat.le_of_ble_eq_true rfl) dX0_appendCode_107 ⟨Nat.le_of_ble_eq_true rfl, Nat.le_of_ble_eq_true rfl⟩ (hc.room (zc_L_le hI))) (fun N9 d9 H locs cells slots hN9 hc hP hD hS => ?_)
      have hI : zc_I N9 := by rw [hN9]; exact zi_append hI _
      subst hN9
      subst hN8
      exact zc_rvg hQ hx hb hr hlocks hK hP hD hS hc (by simp [zc_appendCode, zq_upd, c_4, c_17]) dX0_appendCode_110
  · refine lv_aload_n hx hb dX0_appendCode_7 rfl (lv_at hl 0 rfl) ?_
    refine lv_iload_n hx hb dX0_appendCode_8 rfl (lv_at hl 1 rfl) ?_
    refine zc_callv C hP hD hS hc (zl_append _) (zb_runV C hP hD hS [0, 1, 2, 3, 4, 5, 6, 7, 8, 9, 10, 11, 12, 13, 14, 15, 16] rfl (by decide) rfl (kX0_append l g E o d N c hI ) w_632 mX0_append 0 rfl rfl rfl rfl hl.1 rfl (Nat.le_of_ble_eq_true rfl) dX0_appendCode_9 ⟨Nat.le_of_ble_eq_true rfl, Nat.le_of_ble_eq_true rfl⟩ (hc.room (zc_L_le hI))) (fun N10 d10 H locs cells slots hN10 hc hP hD hS => ?_)
    have hI : zc_I N10 := by rw [hN10]; exact zi_append hI _
    subst hN10
    exact zc_rvg hQ hx hb hr hlocks hK hP hD hS hc (by simp [zc_appendCode, zq_upd, c_4]) dX0_appendCode_12
set_option maxHeartbeats 4000000 in
set_option maxRecDepth 100000 in
theorem kL_equal (l : Launch) (g : za_G) (E : za_E) (o d : Nat → Nat) (N : zc_N) (a b n : Int32)  {p : Program} {e : Env} {s : State} {m : MethodId} {args : Array Value} {below : List Frame} {meth : Method} {co : Code} {A : Nat → Prop} {Q : State → Prop} (C : za_H p s m args co cX0_areEqual 5 RX0 g E A) (hQ : Q = MQ below (za_qi g (fun r (_ : Unit) => r = zk_equal N a b n) (fun _ => zc_ws g o d N) A) args s 0 0 A) (hr : meth.sig.returnType = (some .boolean)) (hlocks : meth.locks = false)  : ∀ (n_ : Nat) (j : Nat), (j ≤ n.toNatClampNeg) → (∀ i : Nat, i < j → zk_byteAt N (a + nI i) = zk_byteAt N (b + nI i)) → n.toNatClampNeg - j < n_ → ∀ (H : Heap) (locs : List Loc) (ls : Array Slot), va_S A s.heap H locs → va_P g.1 vwCl (zc_ws g o d N) H → va_D A (zc_ws g o d N) → zc_I N → lv_has ls 5 [(0, .ref (o 0)), (1, .int a), (2, .int b), (3, .int n), (4, .int (nI j))] → W p l e (za_R 1 0 0) s m args below meth co H locs 0 0 Q (F0 m 3 ls []) := by
  obtain ⟨hx, hb, hml, hown, hts, hK, hA, hE⟩ := id C
  intro n_
  induction n_ with
  | zero => intro j hj hall hm; exact absurd hm (Nat.not_lt_zero _)
  | succ n_ ih =>
    intro j hj hall hm H locs ls hS hP hD hI hl
    have hn9 := z_clt n
    refine lv_iload hx hb dX0_areEqual_3 (lv_at hl 4 rfl) ?_
    refine lv_iload_n hx hb dX0_areEqual_5 rfl (lv_at hl 3 rfl) ?_
    refine za_icmp_ge (tgt := 36) hx hb dX0_areEqual_6 (by decide) (fun c_6 => ?_) (fun c_6 => ?_)
    · refine lv_iconst (v := 1) hx hb dX0_areEqual_36 (by decide) ?_
      exact zc_ri hQ hx hb hr hlocks hK hP hD hS rfl (by unfold zk_equal; rw [if_pos (fun i hi => hall i (by rcases Nat.lt_or_ge j n.toNatClampNeg with q | q; exact absurd ((z_ltc (by omega)).mpr q) c_6; omega))]) (Nat.le_refl _) (Nat.le_refl _) dX0_areEqual_37
    · have hlt : j < n.toNatClampNeg := (z_ltc (by omega)).mp c_6
      refine lv_aload_n hx hb dX0_areEqual_9 rfl (lv_at hl 0 rfl) ?_
      refine lv_iload_n hx hb dX0_areEqual_10 rfl (lv_at hl 1 rfl) ?_
      refine lv_iload hx hb dX0_areEqual_11 (lv_at hl 4 rfl) ?_
      refine lv_iadd hx hb dX0_areEqual_13 ?_
      refine za_ci (wc := zc_ws g o d N) (wr := []) C hP hD hS [0, 1, 2, 3, 4, 5, 6, 7, 8, 9, 10, 11, 12, 13, 14, 15, 16] [] rfl rfl (by decide) (by decide) (za_runV C hP hD hS [0, 1, 2, 3, 4, 5, 6, 7, 8, 9, 10, 11, 12, 13, 14, 15, 16] rfl (by decide) rfl (kX0_byteAt l g E o d N (a + (nI j)) hI ) w_538 mX0_byteAt 0 rfl rfl rfl rfl hl.1 rfl (Nat.le_of_ble_eq_true rfl) dX0_areEqual_14 ⟨Nat.le_of_ble_eq_true rfl, Nat.le_of_ble_eq_true rfl⟩ ⟨Nat.le_refl _, Nat.le_refl _⟩) (fun r1 _ H locs hr1 hP hD hS => ?_)
      subst hr1
      have hP : va_P g.1 vwCl (zc_ws g o d N) H := hP
      have hD : va_D A (zc_ws g o d N) := hD
      refine lv_aload_n hx hb dX0_areEqual_17 rfl (lv_at hl 0 rfl) ?_
      refine lv_iload_n hx hb dX0_areEqual_18 rfl (lv_at hl 2 rfl) ?_
      refine lv_iload hx hb dX0_areEqual_19 (lv_at hl 4 rfl) ?_
      refine lv_iadd hx hb dX0_areEqual_21 ?_
      refine za_ci (wc := zc_ws g o d N) (wr := []) C hP hD hS [0, 1, 2, 3, 4, 5, 6, 7, 8, 9, 10, 11, 12, 13, 14, 15, 16] [] rfl rfl (by decide) (by decide) (za_runV C hP hD hS [0, 1, 2, 3, 4, 5, 6, 7, 8, 9, 10, 11, 12, 13, 14, 15, 16] rfl (by decide) rfl (kX0_byteAt l g E o d N (b + (nI j)) hI ) w_538 mX0_byteAt 0 rfl rfl rfl rfl hl.1 rfl (Nat.le_of_ble_eq_true rfl) dX0_areEqual_22 ⟨Nat.le_of_ble_eq_true rfl, Nat.le_of_ble_eq_true rfl⟩ ⟨Nat.le_refl _, Nat.le_refl _⟩) (fun r2 _ H locs hr2 hP hD hS => ?_)
      subst hr2
      have hP : va_P g.1 vwCl (zc_ws g o d N) H := hP
      have hD : va_D A (zc_ws g o d N) := hD
      refine lv_icmp_eq (tgt := 30) hx hb dX0_areEqual_25 (by decide) (fun c_25 => ?_) (fun c_25 => ?_)
      · refine lv_iinc (v := nI (j + 1)) (lv' := [(4, .int (nI (j + 1))), (0, .ref (o 0)), (1, .int a), (2, .int b), (3, .int n)]) hx hb dX0_areEqual_30 hl (k := 4) rfl (nI_1 _) (by decide) rfl (fun ls hl => ?_)
        refine lv_goto (tgt := 3) hx hb dX0_areEqual_33 (by decide) ?_
        exact ih (j + 1) (by omega) (fun i hi => by rcases Nat.lt_or_ge i j with q | q; exact hall i q; rw [show i = j by omega]; exact c_25) (by omega) H locs ls hS hP hD hI (lv_sub hl [1, 2, 3, 4, 0] rfl)
      · refine lv_iconst (v := 0) hx hb dX0_areEqual_28 (by decide) ?_
        exact zc_ri hQ hx hb hr hlocks hK hP hD hS rfl (by unfold zk_equal; rw [if_neg (fun h9 => c_25 (h9 j hlt))]) (Nat.le_refl _) (Nat.le_refl _) dX0_areEqual_29
set_option maxHeartbeats 4000000 in
set_option maxRecDepth 100000 in
theorem kX0_areEqual (l : Launch) (g : za_G) (E : za_E) (o d : Nat → Nat) (N : zc_N) (a b n : Int32) (hI : zc_I N) : za_Ci l g E yX0_areEqual cX0_areEqual 5 ((some .boolean)) 1 0 0 [.ref (o 0), .int a, .int b, .int n] (zc_ws g o d N) (fun r (_ : Unit) => r = zk_equal N a b n) (fun _ => zc_ws g o d N) := by
  refine za_begin (by decide) (Nat.le_of_ble_eq_true rfl) RX0 rfl ?_
  intro p e s m args below meth co A ls Q H locs C hQ hr hlocks hnm hS hP hD hl
  obtain ⟨hx, hb, hml, hown, hts, hK, hA, hE⟩ := id C
  have hl : lv_has ls 5 [(0, .ref (o 0)), (1, .int a), (2, .int b), (3, .int n)] := hl
  refine lv_iconst (v := 0) hx hb dX0_areEqual_0 (by decide) ?_
  refine lv_istore (lv' := [(4, .int 0), (0, .ref (o 0)), (1, .int a), (2, .int b), (3, .int n)]) hx hb dX0_areEqual_1 hl (by decide) rfl (fun ls hl => ?_)
  exact kL_equal l g E o d N a b n C hQ hr hlocks _ 0 (Nat.zero_le _) (fun i hi => absurd hi (Nat.not_lt_zero _)) (Nat.lt_succ_self _) H locs ls hS hP hD hI (lv_sub hl [1, 2, 3, 4, 0] rfl)
set_option maxHeartbeats 4000000 in
set_option maxRecDepth 100000 in
theorem kX2_clear (l : Launch) (g : za_G) (E : za_E) (o d : Nat → Nat) (N : zc_N)  : za_Cv l g E yX2_clear cX2_clear 1 1 0 0 [.ref (o 2)] (zc_ws g o d N) (fun u : zc_N => u = zc_clearN N) (fun u => zc_ws g o d u) := by
  refine za_begin (by decide) (Nat.le_of_ble_eq_true rfl) RX2 rfl ?_
  intro p e s m args below meth co A ls Q H locs C hQ hr hlocks hnm hS hP hD hl
  obtain ⟨hx, hb, hml, hown, hts, hK, hA, hE⟩ := id C
  have hl : lv_has ls 1 [(0, .ref (o 2))] := hl
  refine lv_aload_n hx hb dX2_clear_0 rfl (lv_at hl 0 rfl) ?_
  refine va_get (ci := 2) (v := .int (N.1 24)) hx hb hts iX2 hown hK hP 2 rfl rfl 4 (by decide) (hts _ w_154) (fun _ h9 => h9) rfl dX2_clear_1 ?_
  refine za_if_le (tgt := 15) hx hb dX2_clear_4 (by decide) (fun c_4 => ?_) (fun c_4 => ?_)
  · refine lv_aload_n hx hb dX2_clear_15 rfl (lv_at hl 0 rfl) ?_
    refine lv_iconst (v := 0) hx hb dX2_clear_16 (by decide) ?_
    refine va_put (ci := 2) (fs := zc_f2 o d N.1) (v := .int 0) hx hb hts iX2 tyX2 tyX2_ok nmX2 hown hK hP hD hS 2 rfl rfl 4 (by decide) (hts _ w_154) (fun _ h9 => h9) rfl (tyX2_ok 4 (by decide)) rfl rfl (Nat.le_of_ble_eq_true rfl) dX2_clear_17 (fun H locs hP hD hS => ?_)
    have hP := zc_pf24 (X := N) hP
    have hD := zc_df24 (X := N) hD
    exact zc_rv hQ hx hb hr hlocks hK hP hD hS (by simp [zc_clearN, zq_upd, c_4]) (Nat.le_refl _) (Nat.le_refl _) dX2_clear_20
  · refine lv_aload_n hx hb dX2_clear_7 rfl (lv_at hl 0 rfl) ?_
    refine va_get (ci := 2) (v := .ref (d 20)) hx hb hts iX2 hown hK hP 2 rfl rfl 0 (by decide) (hts _ w_150) (fun _ h9 => h9) rfl dX2_clear_8 ?_
    refine lv_iconst (v := (-1)) hx hb dX2_clear_11 (by decide) ?_
    refine za_cv (wc := [(d 20, .inl (g.2.2.1, 512, .inl (N.2.1 20)))]) (wr := [(o 0, .inr (0, zc_f0 o d N.1)), (o 1, .inr (1, zc_f1 o d N.1)), (o 2, .inr (2, zc_f2 o d N.1)), (o 3, .inr (3, zc_f3 o d N.1)), (o 4, .inr (4, zc_f4 o d N.1)), (o 5, .inr (5, zc_f5 o d N.1)), (o 6, .inr (6, zc_f6 o d N.1)), (o 7, .inr (7, zc_f7 o d N.1)), (o 8, .inr (8, zc_f8 o d N.1)), (d 0, .inl (g.2.1, N.2.2.2 0, .inl (N.2.1 0))), (d 11, .inl (g.2.2.2.1, 16, .inr (.inl N.2.2.1))), (d 21, .inl (g.2.2.1, N.2.2.2 21, .inl (N.2.1 21))), (d 22, .inl (g.2.2.1, N.2.2.2 22, .inl (N.2.1 22))), (d 23, .inl (g.2.2.1, N.2.2.2 23, .inl (N.2.1 23))), (d 60, .inl (g.2.1, N.2.2.2 60, .inl (N.2.1 60))), (d 70, .inl (g.2.2.1, N.2.2.2 70, .inl (N.2.1 70)))]) C hP hD hS [11] [0, 1, 2, 3, 4, 5, 6, 7, 8, 9, 10, 12, 13, 14, 15, 16] rfl rfl (by decide) (by decide) (za_runS C hP hD hS [11] rfl (by decide) rfl (kJ7_fill l g E (d 20) 512 (N.2.1 20) (-1) (by decide)) w_147 mJ7_fill_53178 rfl hl.1 rfl (Nat.le_of_ble_eq_true rfl) dX2_clear_12 ⟨Nat.le_of_ble_eq_true rfl, Nat.le_of_ble_eq_true rfl⟩ ⟨Nat.le_refl _, Nat.le_refl _⟩) (fun _ H locs _ hP hD hS => ?_)
    have hP := zc_pfill (X := N) (d := d) hP
    have hD := zc_dfill (X := N) (d := d) hD
    refine lv_aload_n hx hb dX2_clear_15 rfl (lv_at hl 0 rfl) ?_
    refine lv_iconst (v := 0) hx hb dX2_clear_16 (by decide) ?_
    refine va_put (ci := 2) (fs := zc_f2 o d (zc_fill N).1) (v := .int 0) hx hb hts iX2 tyX2 tyX2_ok nmX2 hown hK hP hD hS 2 rfl rfl 4 (by decide) (hts _ w_154) (fun _ h9 => h9) rfl (tyX2_ok 4 (by decide)) rfl rfl (Nat.le_of_ble_eq_true rfl) dX2_clear_17 (fun H locs hP hD hS => ?_)
    have hP := zc_pf24 (X := (zc_fill N)) hP
    have hD := zc_df24 (X := (zc_fill N)) hD
    exact zc_rv hQ hx hb hr hlocks hK hP hD hS (by simp [zc_clearN, zq_upd, c_4]) (Nat.le_refl _) (Nat.le_refl _) dX2_clear_20
set_option maxHeartbeats 4000000 in
set_option maxRecDepth 100000 in
theorem kX8_clear (l : Launch) (g : za_G) (E : za_E) (o d : Nat → Nat) (N : zc_N)  : za_Cv l g E yX8_clear cX8_clear 1 2 0 0 [.ref (o 7)] (zc_ws g o d N) (fun u : zc_N => u = zc_clear N) (fun u => zc_ws g o d u) := by
  refine za_begin (by decide) (Nat.le_of_ble_eq_true rfl) RX8 rfl ?_
  intro p e s m args below meth co A ls Q H locs C hQ hr hlocks hnm hS hP hD hl
  obtain ⟨hx, hb, hml, hown, hts, hK, hA, hE⟩ := id C
  have hl : lv_has ls 1 [(0, .ref (o 7))] := hl
  refine lv_aload_n hx hb dX8_clear_0 rfl (lv_at hl 0 rfl) ?_
  refine lv_iconst (v := 0) hx hb dX8_clear_1 (by decide) ?_
  refine va_put (ci := 7) (fs := zc_f7 o d N.1) (v := .int 0) hx hb hts iX8 tyX8 tyX8_ok nmX8 hown hK hP hD hS 7 rfl rfl 1 (by decide) (hts _ w_168) (fun _ h9 => h9) rfl (tyX8_ok 1 (by decide)) rfl rfl (Nat.le_of_ble_eq_true rfl) dX8_clear_2 (fun H locs hP hD hS => ?_)
  have hP := zc_pf71 (X := N) hP
  have hD := zc_df71 (X := N) hD
  refine lv_aload_n hx hb dX8_clear_5 rfl (lv_at hl 0 rfl) ?_
  refine va_get (ci := 7) (v := .ref (o 0)) hx hb hts iX8 hown hK hP 7 rfl rfl 2 (by decide) (hts _ w_171) (fun _ h9 => h9) rfl dX8_clear_6 ?_
  refine lv_iconst (v := 0) hx hb dX8_clear_9 (by decide) ?_
  refine va_put (ci := 0) (fs := zc_f0 o d (zc_s N 71 0).1) (v := .int 0) hx hb hts iX0 tyX0 tyX0_ok nmX0 hown hK hP hD hS 0 rfl rfl 1 (by decide) (hts _ w_132) (fun _ h9 => h9) rfl (tyX0_ok 1 (by decide)) rfl rfl (Nat.le_of_ble_eq_true rfl) dX8_clear_10 (fun H locs hP hD hS => ?_)
  have hP := zc_pf1 (X := zc_s N 71 0) hP
  have hD := zc_df1 (X := zc_s N 71 0) hD
  refine lv_aload_n hx hb dX8_clear_13 rfl (lv_at hl 0 rfl) ?_
  refine va_get (ci := 7) (v := .ref (o 2)) hx hb hts iX8 hown hK hP 7 rfl rfl 3 (by decide) (hts _ w_174) (fun _ h9 => h9) rfl dX8_clear_14 ?_
  refine za_cv (wc := zc_ws g o d (zc_s (zc_s N 71 0) 1 0)) (wr := []) C hP hD hS [0, 1, 2, 3, 4, 5, 6, 7, 8, 9, 10, 11, 12, 13, 14, 15, 16] [] rfl rfl (by decide) (by decide) (za_runV C hP hD hS [0, 1, 2, 3, 4, 5, 6, 7, 8, 9, 10, 11, 12, 13, 14, 15, 16] rfl (by decide) rfl (kX2_clear l g E o d (zc_s (zc_s N 71 0) 1 0)  ) w_332 mX2_clear 2 rfl rfl rfl rfl hl.1 rfl (Nat.le_of_ble_eq_true rfl) dX8_clear_17 ⟨Nat.le_of_ble_eq_true rfl, Nat.le_of_ble_eq_true rfl⟩ ⟨Nat.le_refl _, Nat.le_refl _⟩) (fun N1 H locs hN1 hP hD hS => ?_)
  have hP : va_P g.1 vwCl (zc_ws g o d N1) H := hP
  have hD : va_D A (zc_ws g o d N1) := hD
  subst hN1
  exact zc_rv hQ hx hb hr hlocks hK hP hD hS (by simp [zc_clear, zq_upd]) (Nat.le_refl _) (Nat.le_refl _) dX8_clear_20
set_option maxHeartbeats 4000000 in
set_option maxRecDepth 100000 in
theorem kX5_mayEndLine (l : Launch) (g : za_G) (E : za_E) (k : Int32) : za_Ci l g E yX5_mayEndLine cX5_mayEndLine 1 ((some .boolean)) 0 0 0 [.int k] [] (fun r (_ : Unit) => r = zk_ends k) (fun _ => []) := by
  refine za_begin (by decide) (Nat.le_of_ble_eq_true rfl) RX5 rfl ?_
  intro p e s m args below meth co A ls Q H locs C hQ hr hlocks hnm hS hP hD hl
  obtain ⟨hx, hb, hml, hown, hts, hK, hA, hE⟩ := id C
  have hl : lv_has ls 1 [(0, .int k)] := hl
  refine lv_iload_n hx hb dX5_mayEndLine_0 rfl (lv_at hl 0 rfl) ?_
  by_cases c_1_1 : k = 1
  · refine lv_lookup (off := 123) (tgt := 124) hx hb dX5_mayEndLine_1 (by decide) (by rw [c_1_1]; decide) (by decide) ?_
    refine lv_iconst (v := 1) hx hb dX5_mayEndLine_124 (by decide) ?_
    exact zm_rn hQ hx hb hr hlocks hK hP hD hS rfl (by simp [zk_ends, zq_upd, eq_true c_1_1]) dX5_mayEndLine_125
  by_cases c_1_2 : k = 2
  · refine lv_lookup (off := 123) (tgt := 124) hx hb dX5_mayEndLine_1 (by decide) (by rw [c_1_2]; decide) (by decide) ?_
    refine lv_iconst (v := 1) hx hb dX5_mayEndLine_124 (by decide) ?_
    exact zm_rn hQ hx hb hr hlocks hK hP hD hS rfl (by simp [zk_ends, zq_upd, c_1_1, eq_true c_1_2]) dX5_mayEndLine_125
  by_cases c_1_3 : k = 3
  · refine lv_lookup (off := 123) (tgt := 124) hx hb dX5_mayEndLine_1 (by decide) (by rw [c_1_3]; decide) (by decide) ?_
    refine lv_iconst (v := 1) hx hb dX5_mayEndLine_124 (by decide) ?_
    exact zm_rn hQ hx hb hr hlocks hK hP hD hS rfl (by simp [zk_ends, zq_upd, c_1_1, c_1_2, eq_true c_1_3]) dX5_mayEndLine_125
  by_cases c_1_4 : k = 4
  · refine lv_lookup (off := 123) (tgt := 124) hx hb dX5_mayEndLine_1 (by decide) (by rw [c_1_4]; decide) (by decide) ?_
    refine lv_iconst (v := 1) hx hb dX5_mayEndLine_124 (by decide) ?_
    exact zm_rn hQ hx hb hr hlocks hK hP hD hS rfl (by simp [zk_ends, zq_upd, c_1_1, c_1_2, c_1_3, eq_true c_1_4]) dX5_mayEndLine_125
  by_cases c_1_5 : k = 5
  · refine lv_lookup (off := 123) (tgt := 124) hx hb dX5_mayEndLine_1 (by decide) (by rw [c_1_5]; decide) (by decide) ?_
    refine lv_iconst (v := 1) hx hb dX5_mayEndLine_124 (by decide) ?_
    exact zm_rn hQ hx hb hr hlocks hK hP hD hS rfl (by simp [zk_ends, zq_upd, c_1_1, c_1_2, c_1_3, c_1_4, eq_true c_1_5]) dX5_mayEndLine_125
  by_cases c_1_10 : k = 10
  · refine lv_lookup (off := 123) (tgt := 124) hx hb dX5_mayEndLine_1 (by decide) (by rw [c_1_10]; decide) (by decide) ?_
    refine lv_iconst (v := 1) hx hb dX5_mayEndLine_124 (by decide) ?_
    exact zm_rn hQ hx hb hr hlocks hK hP hD hS rfl (by simp [zk_ends, zq_upd, c_1_1, c_1_2, c_1_3, c_1_4, c_1_5, eq_true c_1_10]) dX5_mayEndLine_125
  by_cases c_1_14 : k = 14
  · refine lv_lookup (off := 123) (tgt := 124) hx hb dX5_mayEndLine_1 (by decide) (by rw [c_1_14]; decide) (by decide) ?_
    refine lv_iconst (v := 1) hx hb dX5_mayEndLine_124 (by decide) ?_
    exact zm_rn hQ hx hb hr hlocks hK hP hD hS rfl (by simp [zk_ends, zq_upd, c_1_1, c_1_2, c_1_3, c_1_4, c_1_5, c_1_10, eq_true c_1_14]) dX5_mayEndLine_125
  by_cases c_1_18 : k = 18
  · refine lv_lookup (off := 123) (tgt := 124) hx hb dX5_mayEndLine_1 (by decide) (by rw [c_1_18]; decide) (by decide) ?_
    refine lv_iconst (v := 1) hx hb dX5_mayEndLine_124 (by decide) ?_
    exact zm_rn hQ hx hb hr hlocks hK hP hD hS rfl (by simp [zk_ends, zq_upd, c_1_1, c_1_2, c_1_3, c_1_4, c_1_5, c_1_10, c_1_14, eq_true c_1_18]) dX5_mayEndLine_125
  by_cases c_1_29 : k = 29
  · refine lv_lookup (off := 123) (tgt := 124) hx hb dX5_mayEndLine_1 (by decide) (by rw [c_1_29]; decide) (by decide) ?_
    refine lv_iconst (v := 1) hx hb dX5_mayEndLine_124 (by decide) ?_
    exact zm_rn hQ hx hb hr hlocks hK hP hD hS rfl (by simp [zk_ends, zq_upd, c_1_1, c_1_2, c_1_3, c_1_4, c_1_5, c_1_10, c_1_14, c_1_18, eq_true c_1_29]) dX5_mayEndLine_125
  by_cases c_1_65 : k = 65
  · refine lv_lookup (off := 123) (tgt := 124) hx hb dX5_mayEndLine_1 (by decide) (by rw [c_1_65]; decide) (by decide) ?_
    refine lv_iconst (v := 1) hx hb dX5_mayEndLine_124 (by decide) ?_
    exact zm_rn hQ hx hb hr hlocks hK hP hD hS rfl (by simp [zk_ends, zq_upd, c_1_1, c_1_2, c_1_3, c_1_4, c_1_5, c_1_10, c_1_14, c_1_18, c_1_29, eq_true c_1_65]) dX5_mayEndLine_125
  by_cases c_1_66 : k = 66
  · refine lv_lookup (off := 123) (tgt := 124) hx hb dX5_mayEndLine_1 (by decide) (by rw [c_1_66]; decide) (by decide) ?_
    refine lv_iconst (v := 1) hx hb dX5_mayEndLine_124 (by decide) ?_
    exact zm_rn hQ hx hb hr hlocks hK hP hD hS rfl (by simp [zk_ends, zq_upd, c_1_1, c_1_2, c_1_3, c_1_4, c_1_5, c_1_10, c_1_14, c_1_18, c_1_29, c_1_65, eq_true c_1_66]) dX5_mayEndLine_125
  by_cases c_1_79 : k = 79
  · refine lv_lookup (off := 123) (tgt := 124) hx hb dX5_mayEndLine_1 (by decide) (by rw [c_1_79]; decide) (by decide) ?_
    refine lv_iconst (v := 1) hx hb dX5_mayEndLine_124 (by decide) ?_
    exact zm_rn hQ hx hb hr hlocks hK hP hD hS rfl (by simp [zk_ends, zq_upd, c_1_1, c_1_2, c_1_3, c_1_4, c_1_5, c_1_10, c_1_14, c_1_18, c_1_29, c_1_65, c_1_66, eq_true c_1_79]) dX5_mayEndLine_125
  by_cases c_1_81 : k = 81
  · refine lv_lookup (off := 123) (tgt := 124) hx hb dX5_mayEndLine_1 (by decide) (by rw [c_1_81]; decide) (by decide) ?_
    refine lv_iconst (v := 1) hx hb dX5_mayEndLine_124 (by decide) ?_
    exact zm_rn hQ hx hb hr hlocks hK hP hD hS rfl (by simp [zk_ends, zq_upd, c_1_1, c_1_2, c_1_3, c_1_4, c_1_5, c_1_10, c_1_14, c_1_18, c_1_29, c_1_65, c_1_66, c_1_79, eq_true c_1_81]) dX5_mayEndLine_125
  by_cases c_1_83 : k = 83
  · refine lv_lookup (off := 123) (tgt := 124) hx hb dX5_mayEndLine_1 (by decide) (by rw [c_1_83]; decide) (by decide) ?_
    refine lv_iconst (v := 1) hx hb dX5_mayEndLine_124 (by decide) ?_
    exact zm_rn hQ hx hb hr hlocks hK hP hD hS rfl (by simp [zk_ends, zq_upd, c_1_1, c_1_2, c_1_3, c_1_4, c_1_5, c_1_10, c_1_14, c_1_18, c_1_29, c_1_65, c_1_66, c_1_79, c_1_81, eq_true c_1_83]) dX5_mayEndLine_125
  refine lv_lookup (off := 125) (tgt := 126) hx hb dX5_mayEndLine_1 (by decide) (by rw [lv_osw c_1_1 (by decide)]; rw [lv_osw c_1_2 (by decide)]; rw [lv_osw c_1_3 (by decide)]; rw [lv_osw c_1_4 (by decide)]; rw [lv_osw c_1_5 (by decide)]; rw [lv_osw c_1_10 (by decide)]; rw [lv_osw c_1_14 (by decide)]; rw [lv_osw c_1_18 (by decide)]; rw [lv_osw c_1_29 (by decide)]; rw [lv_osw c_1_65 (by decide)]; rw [lv_osw c_1_66 (by decide)]; rw [lv_osw c_1_79 (by decide)]; rw [lv_osw c_1_81 (by decide)]; rw [lv_osw c_1_83 (by decide)]; rfl) (by decide) ?_
  refine lv_iconst (v := 0) hx hb dX5_mayEndLine_126 (by decide) ?_
  exact zm_rn hQ hx hb hr hlocks hK hP hD hS rfl (by simp [zk_ends, zq_upd, c_1_1, c_1_2, c_1_3, c_1_4, c_1_5, c_1_10, c_1_14, c_1_18, c_1_29, c_1_65, c_1_66, c_1_79, c_1_81, c_1_83]) dX5_mayEndLine_127
set_option maxHeartbeats 4000000 in
set_option maxRecDepth 100000 in
theorem kX5_markStart (l : Launch) (g : za_G) (E : za_E) (o d : Nat → Nat) (N : zc_N)  (hI : zc_I N) : za_Cv l g E yX5_markStart cX5_markStart 1 0 0 0 [.ref (o 5)] (zc_ws g o d N) (fun u : zc_N => u = zc_mark N) (fun u => zc_ws g o d u) := by
  refine za_begin (by decide) (Nat.le_of_ble_eq_true rfl) RX5 rfl ?_
  intro p e s m args below meth co A ls Q H locs C hQ hr hlocks hnm hS hP hD hl
  obtain ⟨hx, hb, hml, hown, hts, hK, hA, hE⟩ := id C
  have hl : lv_has ls 1 [(0, .ref (o 5))] := hl
  refine lv_aload_n hx hb dX5_markStart_0 rfl (lv_at hl 0 rfl) ?_
  refine lv_aload_n hx hb dX5_markStart_1 rfl (lv_at hl 0 rfl) ?_
  refine va_get (ci := 5) (v := .ref (o 6)) hx hb hts iX5 hown hK hP 5 rfl rfl 0 (by decide) (hts _ w_221) (fun _ h9 => h9) rfl dX5_markStart_2 ?_
  refine va_get (ci := 6) (v := .int (N.1 62)) hx hb hts iX7 hown hK hP 6 rfl rfl 2 (by decide) (hts _ w_97) (fun _ h9 => h9) rfl dX5_markStart_5 ?_
  refine va_put (ci := 5) (fs := zc_f5 o d N.1) (v := .int (N.1 62)) hx hb hts iX5 tyX5 tyX5_ok nmX5 hown hK hP hD hS 5 rfl rfl 4 (by decide) (hts _ w_225) (fun _ h9 => h9) rfl (tyX5_ok 4 (by decide)) rfl rfl (Nat.le_of_ble_eq_true rfl) dX5_markStart_8 (fun H locs hP hD hS => ?_)
  have hP := zc_pf54 (X := N) hP
  have hD := zc_df54 (X := N) hD
  have hI : zc_I (zc_s N 54 (N.1 62)) := hI
  refine lv_aload_n hx hb dX5_markStart_11 rfl (lv_at hl 0 rfl) ?_
  refine lv_aload_n hx hb dX5_markStart_12 rfl (lv_at hl 0 rfl) ?_
  refine va_get (ci := 5) (v := .ref (o 6)) hx hb hts iX5 hown hK hP 5 rfl rfl 0 (by decide) (hts _ w_221) (fun _ h9 => h9) rfl dX5_markStart_13 ?_
  refine va_get (ci := 6) (v := .int (N.1 63)) hx hb hts iX7 hown hK hP 6 rfl rfl 3 (by decide) (hts _ w_99) (fun _ h9 => h9) rfl dX5_markStart_16 ?_
  refine va_put (ci := 5) (fs := zc_f5 o d (zc_s N 54 (N.1 62)).1) (v := .int (N.1 63)) hx hb hts iX5 tyX5 tyX5_ok nmX5 hown hK hP hD hS 5 rfl rfl 5 (by decide) (hts _ w_226) (fun _ h9 => h9) rfl (tyX5_ok 5 (by decide)) rfl rfl (Nat.le_of_ble_eq_true rfl) dX5_markStart_19 (fun H locs hP hD hS => ?_)
  have hP := zc_pf55 (X := zc_s N 54 (N.1 62)) hP
  have hD := zc_df55 (X := zc_s N 54 (N.1 62)) hD
  have hI : zc_I (zc_s (zc_s N 54 (N.1 62)) 55 (N.1 63)) := hI
  refine lv_aload_n hx hb dX5_markStart_22 rfl (lv_at hl 0 rfl) ?_
  refine lv_aload_n hx hb dX5_markStart_23 rfl (lv_at hl 0 rfl) ?_
  refine va_get (ci := 5) (v := .ref (o 6)) hx hb hts iX5 hown hK hP 5 rfl rfl 0 (by decide) (hts _ w_221) (fun _ h9 => h9) rfl dX5_markStart_24 ?_
  refine va_get (ci := 6) (v := .int (N.1 62)) hx hb hts iX7 hown hK hP 6 rfl rfl 2 (by decide) (hts _ w_97) (fun _ h9 => h9) rfl dX5_markStart_27 ?_
  refine lv_aload_n hx hb dX5_markStart_30 rfl (lv_at hl 0 rfl) ?_
  refine va_get (ci := 5) (v := .ref (o 6)) hx hb hts iX5 hown hK hP 5 rfl rfl 0 (by decide) (hts _ w_221) (fun _ h9 => h9) rfl dX5_markStart_31 ?_
  refine va_get (ci := 6) (v := .int (N.1 64)) hx hb hts iX7 hown hK hP 6 rfl rfl 4 (by decide) (hts _ w_101) (fun _ h9 => h9) rfl dX5_markStart_34 ?_
  refine lv_isub hx hb dX5_markStart_37 ?_
  refine lv_iconst (v := 1) hx hb dX5_markStart_38 (by decide) ?_
  refine lv_iadd hx hb dX5_markStart_39 ?_
  refine va_put (ci := 5) (fs := zc_f5 o d (zc_s (zc_s N 54 (N.1 62)) 55 (N.1 63)).1) (v := .int (((N.1 62) - (N.1 64)) + 1)) hx hb hts iX5 tyX5 tyX5_ok nmX5 hown hK hP hD hS 5 rfl rfl 6 (by decide) (hts _ w_227) (fun _ h9 => h9) rfl (tyX5_ok 6 (by decide)) rfl rfl (Nat.le_of_ble_eq_true rfl) dX5_markStart_40 (fun H locs hP hD hS => ?_)
  have hP := zc_pf56 (X := zc_s (zc_s N 54 (N.1 62)) 55 (N.1 63)) hP
  have hD := zc_df56 (X := zc_s (zc_s N 54 (N.1 62)) 55 (N.1 63)) hD
  have hI : zc_I (zc_s (zc_s (zc_s N 54 (N.1 62)) 55 (N.1 63)) 56 (((N.1 62) - (N.1 64)) + 1)) := hI
  refine lv_aload_n hx hb dX5_markStart_43 rfl (lv_at hl 0 rfl) ?_
  refine lv_aload_n hx hb dX5_markStart_44 rfl (lv_at hl 0 rfl) ?_
  refine va_get (ci := 5) (v := .ref (o 7)) hx hb hts iX5 hown hK hP 5 rfl rfl 1 (by decide) (hts _ w_222) (fun _ h9 => h9) rfl dX5_markStart_45 ?_
  refine va_get (ci := 7) (v := .ref (o 0)) hx hb hts iX8 hown hK hP 7 rfl rfl 2 (by decide) (hts _ w_172) (fun _ h9 => h9) rfl dX5_markStart_48 ?_
  refine va_get (ci := 0) (v := .int (N.1 1)) hx hb hts iX0 hown hK hP 0 rfl rfl 1 (by decide) (hts _ w_134) (fun _ h9 => h9) rfl dX5_markStart_51 ?_
  refine va_put (ci := 5) (fs := zc_f5 o d (zc_s (zc_s (zc_s N 54 (N.1 62)) 55 (N.1 63)) 56 (((N.1 62) - (N.1 64)) + 1)).1) (v := .int (N.1 1)) hx hb hts iX5 tyX5 tyX5_ok nmX5 hown hK hP hD hS 5 rfl rfl 7 (by decide) (hts _ w_228) (fun _ h9 => h9) rfl (tyX5_ok 7 (by decide)) rfl rfl (Nat.le_of_ble_eq_true rfl) dX5_markStart_54 (fun H locs hP hD hS => ?_)
  have hP := zc_pf57 (X := zc_s (zc_s (zc_s N 54 (N.1 62)) 55 (N.1 63)) 56 (((N.1 62) - (N.1 64)) + 1)) hP
  have hD := zc_df57 (X := zc_s (zc_s (zc_s N 54 (N.1 62)) 55 (N.1 63)) 56 (((N.1 62) - (N.1 64)) + 1)) hD
  have hI : zc_I (zc_s (zc_s (zc_s (zc_s N 54 (N.1 62)) 55 (N.1 63)) 56 (((N.1 62) - (N.1 64)) + 1)) 57 (N.1 1)) := hI
  exact zc_rv hQ hx hb hr hlocks hK hP hD hS (by first | rfl | simp [zc_mark, zq_upd]) (Nat.le_refl _) (Nat.le_refl _) dX5_markStart_57
set_option maxHeartbeats 4000000 in
set_option maxRecDepth 100000 in
theorem kX8_add (l : Launch) (g : za_G) (E : za_E) (o d : Nat → Nat) (N : zc_N) (k : Int32) (hI : zc_I N) (hfu : N.1 71 < 16384) : zb_Cv l g E yX8_add cX8_add 3 3 (zc_rc N) (zc_rs N) (zc_L (zc_add N k) - zc_L N) (2 * (zc_L (zc_add N k) - zc_L N)) [.ref (o 7), .int k] (zc_ws g o d N) (fun u : zc_N × (Nat → Nat) => u.1 = zc_add N k) (fun u => zc_ws g o u.2 u.1) := by
  refine zb_begin (by decide) (Nat.le_of_ble_eq_true rfl) RX8 rfl ?_
  intro p e s m args below meth co A ls Q H locs C hQ hr hlocks hnm hS hP hD hl
  obtain ⟨hx, hb, hml, hown, hts, hK, hA, hE⟩ := id C
  have hl : lv_has ls 3 [(0, .ref (o 7)), (1, .int k)] := hl
  have hc : zb_c N N 0 0 := zb_c.rf
  revert hc
  refine (fun (z9 : ∀ cells slots : Nat, zb_c N N cells slots → W p l e (za_R 3 (zc_rc N) (zc_rs N)) s m args below meth co H locs cells slots Q (F0 m 0 ls [])) hc => z9 0 0 hc) (fun cells slots hc => ?_)
  have hI0 := hI
  refine lv_aload_n hx hb dX8_add_0 rfl (lv_at hl 0 rfl) ?_
  refine va_get (ci := 7) (v := .int (N.1 71)) hx hb hts iX8 hown hK hP 7 rfl rfl 1 (by decide) (hts _ w_168) (fun _ h9 => h9) rfl dX8_add_1 ?_
  refine lv_iconst (v := 1) hx hb dX8_add_4 (by decide) ?_
  refine lv_iadd hx hb dX8_add_5 ?_
  refine lv_bipush (v := 11) hx hb dX8_add_6 (by decide) ?_
  refine lv_imul hx hb dX8_add_8 ?_
  refine lv_aload_n hx hb dX8_add_9 rfl (lv_at hl 0 rfl) ?_
  refine va_get (ci := 7) (v := .ref (d 70)) hx hb hts iX8 hown hK hP 7 rfl rfl 0 (by decide) (hts _ w_167) (fun _ h9 => h9) rfl dX8_add_10 ?_
  refine va_alen (v := nI (N.2.2.2 70)) hx hb hK hP 16 1 rfl rfl rfl dX8_add_13 ?_
  refine za_icmp_le (tgt := 35) hx hb dX8_add_14 (by decide) (fun c_14 => ?_) (fun c_14 => ?_)
  · refine lv_aload_n hx hb dX8_add_35 rfl (lv_at hl 0 rfl) ?_
    refine lv_dup hx hb dX8_add_36 rfl ?_
    refine va_get (ci := 7) (v := .int (N.1 71)) hx hb hts iX8 hown hK hP 7 rfl rfl 1 (by decide) (hts _ w_168) (fun _ h9 => h9) rfl dX8_add_37 ?_
    refine lv_iconst (v := 1) hx hb dX8_add_40 (by decide) ?_
    refine lv_iadd hx hb dX8_add_41 ?_
    refine va_put (ci := 7) (fs := zc_f7 o d N.1) (v := .int ((N.1 71) + 1)) hx hb hts iX8 tyX8 tyX8_ok nmX8 hown hK hP hD hS 7 rfl rfl 1 (by decide) (hts _ w_168) (fun _ h9 => h9) rfl (tyX8_ok 1 (by decide)) rfl rfl (Nat.le_of_ble_eq_true rfl) dX8_add_42 (fun H locs hP hD hS => ?_)
    have hP := zc_pf71 (X := N) hP
    have hD := zc_df71 (X := N) hD
    have hc : zb_c N (zc_s N 71 ((N.1 71) + 1)) cells slots := hc
    have hI : zc_I (zc_s N 71 ((N.1 71) + 1)) := (zi_c71 hI hfu c_14)
    refine lv_iconst (v := 0) hx hb dX8_add_45 (by decide) ?_
    refine lv_istore_n (lv' := [(2, .int 0), (0, .ref (o 7)), (1, .int k)]) hx hb dX8_add_46 rfl hl (by decide) rfl (fun ls hl => ?_)
    refine lv_iload_n hx hb dX8_add_47 rfl (lv_at hl 0 rfl) ?_
    refine lv_bipush (v := 11) hx hb dX8_add_48 (by decide) ?_
    refine za_icmp_ge (tgt := 65) hx hb dX8_add_50 (by decide) (fun c_50 => ?_) (fun c_50 => ?_)
    · exact absurd c_50 (by decide)
    · refine lv_aload_n hx hb dX8_add_53 rfl (lv_at hl 1 rfl) ?_
      refine lv_iload_n hx hb dX8_add_54 rfl (lv_at hl 0 rfl) ?_
      refine lv_iconst (v := 0) hx hb dX8_add_55 (by decide) ?_
      refine za_cv (wc := zc_ws g o d (zc_s N 71 ((N.1 71) + 1))) (wr := []) C hP hD hS [0, 1, 2, 3, 4, 5, 6, 7, 8, 9, 10, 11, 12, 13, 14, 15, 16] [] rfl rfl (by decide) (by decide) (za_runV C hP hD hS [0, 1, 2, 3, 4, 5, 6, 7, 8, 9, 10, 11, 12, 13, 14, 15, 16] rfl (by decide) rfl (kX8_tellLast l g E o d (zc_s N 71 ((N.1 71) + 1)) 0 0 hI ) w_385 mX8_tellLast 7 rfl rfl rfl rfl hl.1 rfl (Nat.le_of_ble_eq_true rfl) dX8_add_56 ⟨Nat.le_of_ble_eq_true rfl, Nat.le_of_ble_eq_true rfl⟩ (hc.le0 (zc_L_le hI))) (fun N1 H locs hN1 hP hD hS => ?_)
      have hI : zc_I N1 := by rw [hN1]; exact zi_tell hI _ _
      have hc : zb_c N N1 cells slots := by rw [hN1]; exact hc.eq zL_tell
      have hP : va_P g.1 vwCl (zc_ws g o d N1) H := hP
      have hD : va_D A (zc_ws g o d N1) := hD
      refine lv_iinc (v := 1) (lv' := [(2, .int 1), (0, .ref (o 7)), (1, .int k)]) hx hb dX8_add_59 hl (k := 0) rfl (by decide) (by decide) rfl (fun ls hl => ?_)
      refine lv_goto (tgt := 47) hx hb dX8_add_62 (by decide) ?_
      refine lv_iload_n hx hb dX8_add_47 rfl (lv_at hl 0 rfl) ?_
      refine lv_bipush (v := 11) hx hb dX8_add_48 (by decide) ?_
      refine za_icmp_ge (tgt := 65) hx hb dX8_add_50 (by decide) (fun c_50x => ?_) (fun c_50x => ?_)
      · exact absurd c_50x (by decide)
      · refine lv_aload_n hx hb dX8_add_53 rfl (lv_at hl 1 rfl) ?_
        refine lv_iload_n hx hb dX8_add_54 rfl (lv_at hl 0 rfl) ?_
        refine lv_iconst (v := 0) hx hb dX8_add_55 (by decide) ?_
        refine za_cv (wc := zc_ws g o d N1) (wr := []) C hP hD hS [0, 1, 2, 3, 4, 5, 6, 7, 8, 9, 10, 11, 12, 13, 14, 15, 16] [] rfl rfl (by decide) (by decide) (za_runV C hP hD hS [0, 1, 2, 3, 4, 5, 6, 7, 8, 9, 10, 11, 12, 13, 14, 15, 16] rfl (by decide) rfl (kX8_tellLast l g E o d N1 1 0 hI ) w_385 mX8_tellLast 7 rfl rfl rfl rfl hl.1 rfl (Nat.le_of_ble_eq_true rfl) dX8_add_56 ⟨Nat.le_of_ble_eq_true rfl, Nat.le_of_ble_eq_true rfl⟩ (hc.le0 (zc_L_le hI))) (fun N2 H locs hN2 hP hD hS => ?_)
        have hI : zc_I N2 := by rw [hN2]; exact zi_tell hI _ _
        have hc : zb_c N N2 cells slots := by rw [hN2]; exact hc.eq zL_tell
        have hP : va_P g.1 vwCl (zc_ws g o d N2) H := hP
        have hD : va_D A (zc_ws g o d N2) := hD
        refine lv_iinc (v := 2) (lv' := [(2, .int 2), (0, .ref (o 7)), (1, .int k)]) hx hb dX8_add_59 hl (k := 0) rfl (by decide) (by decide) rfl (fun ls hl => ?_)
        refine lv_goto (tgt := 47) hx hb dX8_add_62 (by decide) ?_
        refine lv_iload_n hx hb dX8_add_47 rfl (lv_at hl 0 rfl) ?_
        refine lv_bipush (v := 11) hx hb dX8_add_48 (by decide) ?_
        refine za_icmp_ge (tgt := 65) hx hb dX8_add_50 (by decide) (fun c_50xx => ?_) (fun c_50xx => ?_)
        · exact absurd c_50xx (by decide)
        · refine lv_aload_n hx hb dX8_add_53 rfl (lv_at hl 1 rfl) ?_
          refine lv_iload_n hx hb dX8_add_54 rfl (lv_at hl 0 rfl) ?_
          refine lv_iconst (v := 0) hx hb dX8_add_55 (by decide) ?_
          refine za_cv (wc := zc_ws g o d N2) (wr := []) C hP hD hS [0, 1, 2, 3, 4, 5, 6, 7, 8, 9, 10, 11, 12, 13, 14, 15, 16] [] rfl rfl (by decide) (by decide) (za_runV C hP hD hS [0, 1, 2, 3, 4, 5, 6, 7, 8, 9, 10, 11, 12, 13, 14, 15, 16] rfl (by decide) rfl (kX8_tellLast l g E o d N2 2 0 hI ) w_385 mX8_tellLast 7 rfl rfl rfl rfl hl.1 rfl (Nat.le_of_ble_eq_true rfl) dX8_add_56 ⟨Nat.le_of_ble_eq_true rfl, Nat.le_of_ble_eq_true rfl⟩ (hc.le0 (zc_L_le hI))) (fun N3 H locs hN3 hP hD hS => ?_)
          have hI : zc_I N3 := by rw [hN3]; exact zi_tell hI _ _
          have hc : zb_c N N3 cells slots := by rw [hN3]; exact hc.eq zL_tell
          have hP : va_P g.1 vwCl (zc_ws g o d N3) H := hP
          have hD : va_D A (zc_ws g o d N3) := hD
          refine lv_iinc (v := 3) (lv' := [(2, .int 3), (0, .ref (o 7)), (1, .int k)]) hx hb dX8_add_59 hl (k := 0) rfl (by decide) (by decide) rfl (fun ls hl => ?_)
          refine lv_goto (tgt := 47) hx hb dX8_add_62 (by decide) ?_
          refine lv_iload_n hx hb dX8_add_47 rfl (lv_at hl 0 rfl) ?_
          refine lv_bipush (v := 11) hx hb dX8_add_48 (by decide) ?_
          refine za_icmp_ge (tgt := 65) hx hb dX8_add_50 (by decide) (fun c_50xxx => ?_) (fun c_50xxx => ?_)
          · exact absurd c_50xxx (by decide)
          · refine lv_aload_n hx hb dX8_add_53 rfl (lv_at hl 1 rfl) ?_
            refine lv_iload_n hx hb dX8_add_54 rfl (lv_at hl 0 rfl) ?_
            refine lv_iconst (v := 0) hx hb dX8_add_55 (by decide) ?_
            refine za_cv (wc := zc_ws g o d N3) (wr := []) C hP hD hS [0, 1, 2, 3, 4, 5, 6, 7, 8, 9, 10, 11, 12, 13, 14, 15, 16] [] rfl rfl (by decide) (by decide) (za_runV C hP hD hS [0, 1, 2, 3, 4, 5, 6, 7, 8, 9, 10, 11, 12, 13, 14, 15, 16] rfl (by decide) rfl (kX8_tellLast l g E o d N3 3 0 hI ) w_385 mX8_tellLast 7 rfl rfl rfl rfl hl.1 rfl (Nat.le_of_ble_eq_true rfl) dX8_add_56 ⟨Nat.le_of_ble_eq_true rfl, Nat.le_of_ble_eq_true rfl⟩ (hc.le0 (zc_L_le hI))) (fun N4 H locs hN4 hP hD hS => ?_)
            have hI : zc_I N4 := by rw [hN4]; exact zi_tell hI _ _
            have hc : zb_c N N4 cells slots := by rw [hN4]; exact hc.eq zL_tell
            have hP : va_P g.1 vwCl (zc_ws g o d N4) H := hP
            have hD : va_D A (zc_ws g o d N4) := hD
            refine lv_iinc (v := 4) (lv' := [(2, .int 4), (0, .ref (o 7)), (1, .int k)]) hx hb dX8_add_59 hl (k := 0) rfl (by decide) (by decide) rfl (fun ls hl => ?_)
            refine lv_goto (tgt := 47) hx hb dX8_add_62 (by decide) ?_
            refine lv_iload_n hx hb dX8_add_47 rfl (lv_at hl 0 rfl) ?_
            refine lv_bipush (v := 11) hx hb dX8_add_48 (by decide) ?_
            refine za_icmp_ge (tgt := 65) hx hb dX8_add_50 (by decide) (fun c_50xxxx => ?_) (fun c_50xxxx => ?_)
            · exact absurd c_50xxxx (by decide)
            · refine lv_aload_n hx hb dX8_add_53 rfl (lv_at hl 1 rfl) ?_
              refine lv_iload_n hx hb dX8_add_54 rfl (lv_at hl 0 rfl) ?_
              refine lv_iconst (v := 0) hx hb dX8_add_55 (by decide) ?_
              refine za_cv (wc := zc_ws g o d N4) (wr := []) C hP hD hS [0, 1, 2, 3, 4, 5, 6, 7, 8, 9, 10, 11, 12, 13, 14, 15, 16] [] rfl rfl (by decide) (by decide) (za_runV C hP hD hS [0, 1, 2, 3, 4, 5, 6, 7, 8, 9, 10, 11, 12, 13, 14, 15, 16] rfl (by decide) rfl (kX8_tellLast l g E o d N4 4 0 hI ) w_385 mX8_tellLast 7 rfl rfl rfl rfl hl.1 rfl (Nat.le_of_ble_eq_true rfl) dX8_add_56 ⟨Nat.le_of_ble_eq_true rfl, Nat.le_of_ble_eq_true rfl⟩ (hc.le0 (zc_L_le hI))) (fun N5 H locs hN5 hP hD hS => ?_)
              have hI : zc_I N5 := by rw [hN5]; exact zi_tell hI _ _
              have hc : zb_c N N5 cells slots := by rw [hN5]; exact hc.eq zL_tell
              have hP : va_P g.1 vwCl (zc_ws g o d N5) H := hP
              have hD : va_D A (zc_ws g o d N5) := hD
              refine lv_iinc (v := 5) (lv' := [(2, .int 5), (0, .ref (o 7)), (1, .int k)]) hx hb dX8_add_59 hl (k := 0) rfl (by decide) (by decide) rfl (fun ls hl => ?_)
              refine lv_goto (tgt := 47) hx hb dX8_add_62 (by decide) ?_
              refine lv_iload_n hx hb dX8_add_47 rfl (lv_at hl 0 rfl) ?_
              refine lv_bipush (v := 11) hx hb dX8_add_48 (by decide) ?_
              refine za_icmp_ge (tgt := 65) hx hb dX8_add_50 (by decide) (fun c_50xxxxx => ?_) (fun c_50xxxxx => ?_)
              · exact absurd c_50xxxxx (by decide)
              · refine lv_aload_n hx hb dX8_add_53 rfl (lv_at hl 1 rfl) ?_
                refine lv_iload_n hx hb dX8_add_54 rfl (lv_at hl 0 rfl) ?_
                refine lv_iconst (v := 0) hx hb dX8_add_55 (by decide) ?_
                refine za_cv (wc := zc_ws g o d N5) (wr := []) C hP hD hS [0, 1, 2, 3, 4, 5, 6, 7, 8, 9, 10, 11, 12, 13, 14, 15, 16] [] rfl rfl (by decide) (by decide) (za_runV C hP hD hS [0, 1, 2, 3, 4, 5, 6, 7, 8, 9, 10, 11, 12, 13, 14, 15, 16] rfl (by decide) rfl (kX8_tellLast l g E o d N5 5 0 hI ) w_385 mX8_tellLast 7 rfl rfl rfl rfl hl.1 rfl (Nat.le_of_ble_eq_true rfl) dX8_add_56 ⟨Nat.le_of_ble_eq_true rfl, Nat.le_of_ble_eq_true rfl⟩ (hc.le0 (zc_L_le hI))) (fun N6 H locs hN6 hP hD hS => ?_)
                have hI : zc_I N6 := by rw [hN6]; exact zi_tell hI _ _
                have hc : zb_c N N6 cells slots := by rw [hN6]; exact hc.eq zL_tell
                have hP : va_P g.1 vwCl (zc_ws g o d N6) H := hP
                have hD : va_D A (zc_ws g o d N6) := hD
                refine lv_iinc (v := 6) (lv' := [(2, .int 6), (0, .ref (o 7)), (1, .int k)]) hx hb dX8_add_59 hl (k := 0) rfl (by decide) (by decide) rfl (fun ls hl => ?_)
                refine lv_goto (tgt := 47) hx hb dX8_add_62 (by decide) ?_
                refine lv_iload_n hx hb dX8_add_47 rfl (lv_at hl 0 rfl) ?_
                refine lv_bipush (v := 11) hx hb dX8_add_48 (by decide) ?_
                refine za_icmp_ge (tgt := 65) hx hb dX8_add_50 (by decide) (fun c_50xxxxxx => ?_) (fun c_50xxxxxx => ?_)
                · exact absurd c_50xxxxxx (by decide)
                · refine lv_aload_n hx hb dX8_add_53 rfl (lv_at hl 1 rfl) ?_
                  refine lv_iload_n hx hb dX8_add_54 rfl (lv_at hl 0 rfl) ?_
                  refine lv_iconst (v := 0) hx hb dX8_add_55 (by decide) ?_
                  refine za_cv (wc := zc_ws g o d N6) (wr := []) C hP hD hS [0, 1, 2, 3, 4, 5, 6, 7, 8, 9, 10, 11, 12, 13, 14, 15, 16] [] rfl rfl (by decide) (by decide) (za_runV C hP hD hS [0, 1, 2, 3, 4, 5, 6, 7, 8, 9, 10, 11, 12, 13, 14, 15, 16] rfl (by decide) rfl (kX8_tellLast l g E o d N6 6 0 hI ) w_385 mX8_tellLast 7 rfl rfl rfl rfl hl.1 rfl (Nat.le_of_ble_eq_true rfl) dX8_add_56 ⟨Nat.le_of_ble_eq_true rfl, Nat.le_of_ble_eq_true rfl⟩ (hc.le0 (zc_L_le hI))) (fun N7 H locs hN7 hP hD hS => ?_)
                  have hI : zc_I N7 := by rw [hN7]; exact zi_tell hI _ _
                  have hc : zb_c N N7 cells slots := by rw [hN7]; exact hc.eq zL_tell
                  have hP : va_P g.1 vwCl (zc_ws g o d N7) H := hP
                  have hD : va_D A (zc_ws g o d N7) := hD
                  refine lv_iinc (v := 7) (lv' := [(2, .int 7), (0, .ref (o 7)), (1, .int k)]) hx hb dX8_add_59 hl (k := 0) rfl (by decide) (by decide) rfl (fun ls hl => ?_)
                  refine lv_goto (tgt := 47) hx hb dX8_add_62 (by decide) ?_
                  refine lv_iload_n hx hb dX8_add_47 rfl (lv_at hl 0 rfl) ?_
                  refine lv_bipush (v := 11) hx hb dX8_add_48 (by decide) ?_
                  refine za_icmp_ge (tgt := 65) hx hb dX8_add_50 (by decide) (fun c_50xxxxxxx => ?_) (fun c_50xxxxxxx => ?_)
                  · exact absurd c_50xxxxxxx (by decide)
                  · refine lv_aload_n hx hb dX8_add_53 rfl (lv_at hl 1 rfl) ?_
                    refine lv_iload_n hx hb dX8_add_54 rfl (lv_at hl 0 rfl) ?_
                    refine lv_iconst (v := 0) hx hb dX8_add_55 (by decide) ?_
                    refine za_cv (wc := zc_ws g o d N7) (wr := []) C hP hD hS [0, 1, 2, 3, 4, 5, 6, 7, 8, 9, 10, 11, 12, 13, 14, 15, 16] [] rfl rfl (by decide) (by decide) (za_runV C hP hD hS [0, 1, 2, 3, 4, 5, 6, 7, 8, 9, 10, 11, 12, 13, 14, 15, 16] rfl (by decide) rfl (kX8_tellLast l g E o d N7 7 0 hI ) w_385 mX8_tellLast 7 rfl rfl rfl rfl hl.1 rfl (Nat.le_of_ble_eq_true rfl) dX8_add_56 ⟨Nat.le_of_ble_eq_true rfl, Nat.le_of_ble_eq_true rfl⟩ (hc.le0 (zc_L_le hI))) (fun N8 H locs hN8 hP hD hS => ?_)
                    have hI : zc_I N8 := by rw [hN8]; exact zi_tell hI _ _
                    have hc : zb_c N N8 cells slots := by rw [hN8]; exact hc.eq zL_tell
                    have hP : va_P g.1 vwCl (zc_ws g o d N8) H := hP
                    have hD : va_D A (zc_ws g o d N8) := hD
                    refine lv_iinc (v := 8) (lv' := [(2, .int 8), (0, .ref (o 7)), (1, .int k)]) hx hb dX8_add_59 hl (k := 0) rfl (by decide) (by decide) rfl (fun ls hl => ?_)
                    refine lv_goto (tgt := 47) hx hb dX8_add_62 (by decide) ?_
                    refine lv_iload_n hx hb dX8_add_47 rfl (lv_at hl 0 rfl) ?_
                    refine lv_bipush (v := 11) hx hb dX8_add_48 (by decide) ?_
                    refine za_icmp_ge (tgt := 65) hx hb dX8_add_50 (by decide) (fun c_50xxxxxxxx => ?_) (fun c_50xxxxxxxx => ?_)
                    · exact absurd c_50xxxxxxxx (by decide)
                    · refine lv_aload_n hx hb dX8_add_53 rfl (lv_at hl 1 rfl) ?_
                      refine lv_iload_n hx hb dX8_add_54 rfl (lv_at hl 0 rfl) ?_
                      refine lv_iconst (v := 0) hx hb dX8_add_55 (by decide) ?_
                      refine za_cv (wc := zc_ws g o d N8) (wr := []) C hP hD hS [0, 1, 2, 3, 4, 5, 6, 7, 8, 9, 10, 11, 12, 13, 14, 15, 16] [] rfl rfl (by decide) (by decide) (za_runV C hP hD hS [0, 1, 2, 3, 4, 5, 6, 7, 8, 9, 10, 11, 12, 13, 14, 15, 16] rfl (by decide) rfl (kX8_tellLast l g E o d N8 8 0 hI ) w_385 mX8_tellLast 7 rfl rfl rfl rfl hl.1 rfl (Nat.le_of_ble_eq_true rfl) dX8_add_56 ⟨Nat.le_of_ble_eq_true rfl, Nat.le_of_ble_eq_true rfl⟩ (hc.le0 (zc_L_le hI))) (fun N9 H locs hN9 hP hD hS => ?_)
                      have hI : zc_I N9 := by rw [hN9]; exact zi_tell hI _ _
                      have hc : zb_c N N9 cells slots := by rw [hN9]; exact hc.eq zL_tell
                      have hP : va_P g.1 vwCl (zc_ws g o d N9) H := hP
                      have hD : va_D A (zc_ws g o d N9) := hD
                      refine lv_iinc (v := 9) (lv' := [(2, .int 9), (0, .ref (o 7)), (1, .int k)]) hx hb dX8_add_59 hl (k := 0) rfl (by decide) (by decide) rfl (fun ls hl => ?_)
                      refine lv_goto (tgt := 47) hx hb dX8_add_62 (by decide) ?_
                      refine lv_iload_n hx hb dX8_add_47 rfl (lv_at hl 0 rfl) ?_
                      refine lv_bipush (v := 11) hx hb dX8_add_48 (by decide) ?_
                      refine za_icmp_ge (tgt := 65) hx hb dX8_add_50 (by decide) (fun c_50xxxxxxxxx => ?_) (fun c_50xxxxxxxxx => ?_)
                      · exact absurd c_50xxxxxxxxx (by decide)
                      · refine lv_aload_n hx hb dX8_add_53 rfl (lv_at hl 1 rfl) ?_
                        refine lv_iload_n hx hb dX8_add_54 rfl (lv_at hl 0 rfl) ?_
                        refine lv_iconst (v := 0) hx hb dX8_add_55 (by decide) ?_
                        refine za_cv (wc := zc_ws g o d N9) (wr := []) C hP hD hS [0, 1, 2, 3, 4, 5, 6, 7, 8, 9, 10, 11, 12, 13, 14, 15, 16] [] rfl rfl (by decide) (by decide) (za_runV C hP hD hS [0, 1, 2, 3, 4, 5, 6, 7, 8, 9, 10, 11, 12, 13, 14, 15, 16] rfl (by decide) rfl (kX8_tellLast l g E o d N9 9 0 hI ) w_385 mX8_tellLast 7 rfl rfl rfl rfl hl.1 rfl (Nat.le_of_ble_eq_true rfl) dX8_add_56 ⟨Nat.le_of_ble_eq_true rfl, Nat.le_of_ble_eq_true rfl⟩ (hc.le0 (zc_L_le hI))) (fun N10 H locs hN10 hP hD hS => ?_)
                        have hI : zc_I N10 := by rw [hN10]; exact zi_tell hI _ _
                        have hc : zb_c N N10 cells slots := by rw [hN10]; exact hc.eq zL_tell
                        have hP : va_P g.1 vwCl (zc_ws g o d N10) H := hP
                        have hD : va_D A (zc_ws g o d N10) := hD
                        refine lv_iinc (v := 10) (lv' := [(2, .int 10), (0, .ref (o 7)), (1, .int k)]) hx hb dX8_add_59 hl (k := 0) rfl (by decide) (by decide) rfl (fun ls hl => ?_)
                        refine lv_goto (tgt := 47) hx hb dX8_add_62 (by decide) ?_
                        refine lv_iload_n hx hb dX8_add_47 rfl (lv_at hl 0 rfl) ?_
                        refine lv_bipush (v := 11) hx hb dX8_add_48 (by decide) ?_
                        refine za_icmp_ge (tgt := 65) hx hb dX8_add_50 (by decide) (fun c_50xxxxxxxxxx => ?_) (fun c_50xxxxxxxxxx => ?_)
                        · exact absurd c_50xxxxxxxxxx (by decide)
                        · refine lv_aload_n hx hb dX8_add_53 rfl (lv_at hl 1 rfl) ?_
                          refine lv_iload_n hx hb dX8_add_54 rfl (lv_at hl 0 rfl) ?_
                          refine lv_iconst (v := 0) hx hb dX8_add_55 (by decide) ?_
                          refine za_cv (wc := zc_ws g o d N10) (wr := []) C hP hD hS [0, 1, 2, 3, 4, 5, 6, 7, 8, 9, 10, 11, 12, 13, 14, 15, 16] [] rfl rfl (by decide) (by decide) (za_runV C hP hD hS [0, 1, 2, 3, 4, 5, 6, 7, 8, 9, 10, 11, 12, 13, 14, 15, 16] rfl (by decide) rfl (kX8_tellLast l g E o d N10 10 0 hI ) w_385 mX8_tellLast 7 rfl rfl rfl rfl hl.1 rfl (Nat.le_of_ble_eq_true rfl) dX8_add_56 ⟨Nat.le_of_ble_eq_true rfl, Nat.le_of_ble_eq_true rfl⟩ (hc.le0 (zc_L_le hI))) (fun N11 H locs hN11 hP hD hS => ?_)
                          have hI : zc_I N11 := by rw [hN11]; exact zi_tell hI _ _
                          have hc : zb_c N N11 cells slots := by rw [hN11]; exact hc.eq zL_tell
                          have hP : va_P g.1 vwCl (zc_ws g o d N11) H := hP
                          have hD : va_D A (zc_ws g o d N11) := hD
                          refine lv_iinc (v := 11) (lv' := [(2, .int 11), (0, .ref (o 7)), (1, .int k)]) hx hb dX8_add_59 hl (k := 0) rfl (by decide) (by decide) rfl (fun ls hl => ?_)
                          refine lv_goto (tgt := 47) hx hb dX8_add_62 (by decide) ?_
                          refine lv_iload_n hx hb dX8_add_47 rfl (lv_at hl 0 rfl) ?_
                          refine lv_bipush (v := 11) hx hb dX8_add_48 (by decide) ?_
                          refine za_icmp_ge (tgt := 65) hx hb dX8_add_50 (by decide) (fun c_50xxxxxxxxxxx => ?_) (fun c_50xxxxxxxxxxx => ?_)
                          · refine lv_aload_n hx hb dX8_add_65 rfl (lv_at hl 1 rfl) ?_
                            refine lv_iconst (v := 0) hx hb dX8_add_66 (by decide) ?_
                            refine lv_iload_n hx hb dX8_add_67 rfl (lv_at hl 2 rfl) ?_
                            refine za_cv (wc := zc_ws g o d N11) (wr := []) C hP hD hS [0, 1, 2, 3, 4, 5, 6, 7, 8, 9, 10, 11, 12, 13, 14, 15, 16] [] rfl rfl (by decide) (by decide) (za_runV C hP hD hS [0, 1, 2, 3, 4, 5, 6, 7, 8, 9, 10, 11, 12, 13, 14, 15, 16] rfl (by decide) rfl (kX8_tellLast l g E o d N11 0 k hI ) w_385 mX8_tellLast 7 rfl rfl rfl rfl hl.1 rfl (Nat.le_of_ble_eq_true rfl) dX8_add_68 ⟨Nat.le_of_ble_eq_true rfl, Nat.le_of_ble_eq_true rfl⟩ (hc.le0 (zc_L_le hI))) (fun N12 H locs hN12 hP hD hS => ?_)
                            have hI : zc_I N12 := by rw [hN12]; exact zi_tell hI _ _
                            have hc : zb_c N N12 cells slots := by rw [hN12]; exact hc.eq zL_tell
                            have hP : va_P g.1 vwCl (zc_ws g o d N12) H := hP
                            have hD : va_D A (zc_ws g o d N12) := hD
                            refine lv_aload_n hx hb dX8_add_71 rfl (lv_at hl 1 rfl) ?_
                            refine lv_bipush (v := 6) hx hb dX8_add_72 (by decide) ?_
                            refine lv_iconst (v := (-1)) hx hb dX8_add_74 (by decide) ?_
                            refine za_cv (wc := zc_ws g o d N12) (wr := []) C hP hD hS [0, 1, 2, 3, 4, 5, 6, 7, 8, 9, 10, 11, 12, 13, 14, 15, 16] [] rfl rfl (by decide) (by decide) (za_runV C hP hD hS [0, 1, 2, 3, 4, 5, 6, 7, 8, 9, 10, 11, 12, 13, 14, 15, 16] rfl (by decide) rfl (kX8_tellLast l g E o d N12 6 (-1) hI ) w_385 mX8_tellLast 7 rfl rfl rfl rfl hl.1 rfl (Nat.le_of_ble_eq_true rfl) dX8_add_75 ⟨Nat.le_of_ble_eq_true rfl, Nat.le_of_ble_eq_true rfl⟩ (hc.le0 (zc_L_le hI))) (fun N13 H locs hN13 hP hD hS => ?_)
                            have hI : zc_I N13 := by rw [hN13]; exact zi_tell hI _ _
                            have hc : zb_c N N13 cells slots := by rw [hN13]; exact hc.eq zL_tell
                            have hP : va_P g.1 vwCl (zc_ws g o d N13) H := hP
                            have hD : va_D A (zc_ws g o d N13) := hD
                            subst hN13
                            subst hN12
                            subst hN11
                            subst hN10
                            subst hN9
                            subst hN8
                            subst hN7
                            subst hN6
                            subst hN5
                            subst hN4
                            subst hN3
                            subst hN2
                            subst hN1
                            exact zc_rvg hQ hx hb hr hlocks hK hP hD hS hc (by simp [zc_add, zc_more70, zc_zero, zq_upd, c_14, c_50, c_50x, c_50xx, c_50xxx, c_50xxxx, c_50xxxxx, c_50xxxxxx, c_50xxxxxxx, c_50xxxxxxxx, c_50xxxxxxxxx, c_50xxxxxxxxxx, c_50xxxxxxxxxxx]) dX8_add_78
                          · exact absurd c_50xxxxxxxxxxx (by decide)
  · refine lv_aload_n hx hb dX8_add_17 rfl (lv_at hl 0 rfl) ?_
    refine lv_aload_n hx hb dX8_add_18 rfl (lv_at hl 0 rfl) ?_
    refine va_get (ci := 7) (v := .ref (d 70)) hx hb hts iX8 hown hK hP 7 rfl rfl 0 (by decide) (hts _ w_167) (fun _ h9 => h9) rfl dX8_add_19 ?_
    refine lv_aload_n hx hb dX8_add_22 rfl (lv_at hl 0 rfl) ?_
    refine va_get (ci := 7) (v := .ref (d 70)) hx hb hts iX8 hown hK hP 7 rfl rfl 0 (by decide) (hts _ w_167) (fun _ h9 => h9) rfl dX8_add_23 ?_
    refine va_alen (v := nI (N.2.2.2 70)) hx hb hK hP 16 1 rfl rfl rfl dX8_add_26 ?_
    refine lv_iconst (v := 2) hx hb dX8_add_27 (by decide) ?_
    refine lv_imul hx hb dX8_add_28 ?_
    refine za_top (v := nI (2 * N.2.2.2 70)) (z_dbl _) ?_
    refine za_cr (wc := [(d 70, .inl (g.2.2.1, N.2.2.2 70, .inl (N.2.1 70)))]) (wr := [(o 0, .inr (0, zc_f0 o d N.1)), (o 1, .inr (1, zc_f1 o d N.1)), (o 2, .inr (2, zc_f2 o d N.1)), (o 3, .inr (3, zc_f3 o d N.1)), (o 4, .inr (4, zc_f4 o d N.1)), (o 5, .inr (5, zc_f5 o d N.1)), (o 6, .inr (6, zc_f6 o d N.1)), (o 7, .inr (7, zc_f7 o d N.1)), (o 8, .inr (8, zc_f8 o d N.1)), (d 0, .inl (g.2.1, N.2.2.2 0, .inl (N.2.1 0))), (d 11, .inl (g.2.2.2.1, 16, .inr (.inl N.2.2.1))), (d 20, .inl (g.2.2.1, 512, .inl (N.2.1 20))), (d 21, .inl (g.2.2.1, N.2.2.2 21, .inl (N.2.1 21))), (d 22, .inl (g.2.2.1, N.2.2.2 22, .inl (N.2.1 22))), (d 23, .inl (g.2.2.1, N.2.2.2 23, .inl (N.2.1 23))), (d 60, .inl (g.2.1, N.2.2.2 60, .inl (N.2.1 60)))]) C hP hD hS [16] [0, 1, 2, 3, 4, 5, 6, 7, 8, 9, 10, 11, 12, 13, 14, 15] rfl rfl (by decide) (by decide) (za_runS C hP hD hS [16] rfl (by decide) rfl (kJ7_copyI l g E (d 70) (N.2.2.2 70) (2 * N.2.2.2 70) (N.2.1 70) (by have := (zc_len hI 70 (by decide)).1; omega) (by have := (zc_len hI 70 (by decide)).2; omega)) w_377 mJ7_copyOf_59c91 rfl hl.1 rfl (Nat.le_of_ble_eq_true rfl) dX8_add_29 ⟨Nat.le_of_ble_eq_true rfl, Nat.le_of_ble_eq_true rfl⟩ (hc.one (zc_cap70 hI hfu c_14).1 (zc_len hI 70 (by decide)).1)) (fun _ q14 H locs _ hP hD hS => ?_)
    have hP := zc_pc70 (X := N) (d := d) hP
    have hD := zc_dc70 (X := N) (d := d) hD
    refine va_put (ci := 7) (fs := zc_f7 o d N.1) (v := .ref q14) hx hb hts iX8 tyX8 tyX8_ok nmX8 hown hK hP hD hS 7 rfl rfl 0 (by decide) (hts _ w_167) (fun _ h9 => h9) rfl (tyX8_ok 0 (by decide)) rfl rfl (Nat.le_of_ble_eq_true rfl) dX8_add_32 (fun H locs hP hD hS => ?_)
    have hP := zc_pg70 (X := N) (d := d) hP
    have hD := zc_dg70 (X := N) (d := d) hD
    have hc := hc.grow70 rfl (zc_len hI 70 (by decide)).1
    revert hc
    generalize cells + 1 = cells, slots + (2 * N.2.2.2 70) = slots
    intro hc
    have hI : zc_I (zc_g N 70 (2 * N.2.2.2 70)) := (zc_cap70 hI hfu c_14).2.1
    refine lv_aload_n hx hb dX8_add_35 rfl (lv_at hl 0 rfl) ?_
    refine lv_dup hx hb dX8_add_36 rfl ?_
    refine va_get (ci := 7) (v := .int (N.1 71)) hx hb hts iX8 hown hK hP 7 rfl rfl 1 (by decide) (hts _ w_168) (fun _ h9 => h9) rfl dX8_add_37 ?_
    refine lv_iconst (v := 1) hx hb dX8_add_40 (by decide) ?_
    refine lv_iadd hx hb dX8_add_41 ?_
    refine va_put (ci := 7) (fs := zc_f7 o (zc_ad d 70 q14) (zc_g N 70 (2 * N.2.2.2 70)).1) (v := .int ((N.1 71) + 1)) hx hb hts iX8 tyX8 tyX8_ok nmX8 hown hK hP hD hS 7 rfl rfl 1 (by decide) (hts _ w_168) (fun _ h9 => h9) rfl (tyX8_ok 1 (by decide)) rfl rfl (Nat.le_of_ble_eq_true rfl) dX8_add_42 (fun H locs hP hD hS => ?_)
    have hP := zc_pf71 (X := zc_g N 70 (2 * N.2.2.2 70)) hP
    have hD := zc_df71 (X := zc_g N 70 (2 * N.2.2.2 70)) hD
    have hc : zb_c N (zc_s (zc_g N 70 (2 * N.2.2.2 70)) 71 ((N.1 71) + 1)) cells slots := hc
    have hI : zc_I (zc_s (zc_g N 70 (2 * N.2.2.2 70)) 71 ((N.1 71) + 1)) := (zi_c71 hI hfu (zc_cap70 hI0 hfu c_14).2.2)
    refine lv_iconst (v := 0) hx hb dX8_add_45 (by decide) ?_
    refine lv_istore_n (lv' := [(2, .int 0), (0, .ref (o 7)), (1, .int k)]) hx hb dX8_add_46 rfl hl (by decide) rfl (fun ls hl => ?_)
    refine lv_iload_n hx hb dX8_add_47 rfl (lv_at hl 0 rfl) ?_
    refine lv_bipush (v := 11) hx hb dX8_add_48 (by decide) ?_
    refine za_icmp_ge (tgt := 65) hx hb dX8_add_50 (by decide) (fun c_50 => ?_) (fun c_50 => ?_)
    · exact absurd c_50 (by decide)
    · refine lv_aload_n hx hb dX8_add_53 rfl (lv_at hl 1 rfl) ?_
      refine lv_iload_n hx hb dX8_add_54 rfl (lv_at hl 0 rfl) ?_
      refine lv_iconst (v := 0) hx hb dX8_add_55 (by decide) ?_
      refine za_cv (wc := zc_ws g o (zc_ad d 70 q14) (zc_s (zc_g N 70 (2 * N.2.2.2 70)) 71 ((N.1 71) + 1))) (wr := []) C hP hD hS [0, 1, 2, 3, 4, 5, 6, 7, 8, 9, 10, 11, 12, 13, 14, 15, 16] [] rfl rfl (by decide) (by decide) (za_runV C hP hD hS [0, 1, 2, 3, 4, 5, 6, 7, 8, 9, 10, 11, 12, 13, 14, 15, 16] rfl (by decide) rfl (kX8_tellLast l g E o (zc_ad d 70 q14) (zc_s (zc_g N 70 (2 * N.2.2.2 70)) 71 ((N.1 71) + 1)) 0 0 hI ) w_385 mX8_tellLast 7 rfl rfl rfl rfl hl.1 rfl (Nat.le_of_ble_eq_true rfl) dX8_add_56 ⟨Nat.le_of_ble_eq_true rfl, Nat.le_of_ble_eq_true rfl⟩ (hc.le0 (zc_L_le hI))) (fun N15 H locs hN15 hP hD hS => ?_)
      have hI : zc_I N15 := by rw [hN15]; exact zi_tell hI _ _
      have hc : zb_c N N15 cells slots := by rw [hN15]; exact hc.eq zL_tell
      have hP : va_P g.1 vwCl (zc_ws g o (zc_ad d 70 q14) N15) H := hP
      have hD : va_D A (zc_ws g o (zc_ad d 70 q14) N15) := hD
      refine lv_iinc (v := 1) (lv' := [(2, .int 1), (0, .ref (o 7)), (1, .int k)]) hx hb dX8_add_59 hl (k := 0) rfl (by decide) (by decide) rfl (fun ls hl => ?_)
      refine lv_goto (tgt := 47) hx hb dX8_add_62 (by decide) ?_
      refine lv_iload_n hx hb dX8_add_47 rfl (lv_at hl 0 rfl) ?_
      refine lv_bipush (v := 11) hx hb dX8_add_48 (by decide) ?_
      refine za_icmp_ge (tgt := 65) hx hb dX8_add_50 (by decide) (fun c_50x => ?_) (fun c_50x => ?_)
      · exact absurd c_50x (by decide)
      · refine lv_aload_n hx hb dX8_add_53 rfl (lv_at hl 1 rfl) ?_
        refine lv_iload_n hx hb dX8_add_54 rfl (lv_at hl 0 rfl) ?_
        refine lv_iconst (v := 0) hx hb dX8_add_55 (by decide) ?_
        refine za_cv (wc := zc_ws g o (zc_ad d 70 q14) N15) (wr := []) C hP hD hS [0, 1, 2, 3, 4, 5, 6, 7, 8, 9, 10, 11, 12, 13, 14, 15, 16] [] rfl rfl (by decide) (by decide) (za_runV C hP hD hS [0, 1, 2, 3, 4, 5, 6, 7, 8, 9, 10, 11, 12, 13, 14, 15, 16] rfl (by decide) rfl (kX8_tellLast l g E o (zc_ad d 70 q14) N15 1 0 hI ) w_385 mX8_tellLast 7 rfl rfl rfl rfl hl.1 rfl (Nat.le_of_ble_eq_true rfl) dX8_add_56 ⟨Nat.le_of_ble_eq_true rfl, Nat.le_of_ble_eq_true rfl⟩ (hc.le0 (zc_L_le hI))) (fun N16 H locs hN16 hP hD hS => ?_)
        have hI : zc_I N16 := by rw [hN16]; exact zi_tell hI _ _
        have hc : zb_c N N16 cells slots := by rw [hN16]; exact hc.eq zL_tell
        have hP : va_P g.1 vwCl (zc_ws g o (zc_ad d 70 q14) N16) H := hP
        have hD : va_D A (zc_ws g o (zc_ad d 70 q14) N16) := hD
        refine lv_iinc (v := 2) (lv' := [(2, .int 2), (0, .ref (o 7)), (1, .int k)]) hx hb dX8_add_59 hl (k := 0) rfl (by decide) (by decide) rfl (fun ls hl => ?_)
        refine lv_goto (tgt := 47) hx hb dX8_add_62 (by decide) ?_
        refine lv_iload_n hx hb dX8_add_47 rfl (lv_at hl 0 rfl) ?_
        refine lv_bipush (v := 11) hx hb dX8_add_48 (by decide) ?_
        refine za_icmp_ge (tgt := 65) hx hb dX8_add_50 (by decide) (fun c_50xx => ?_) (fun c_50xx => ?_)
        · exact absurd c_50xx (by decide)
        · refine lv_aload_n hx hb dX8_add_53 rfl (lv_at hl 1 rfl) ?_
          refine lv_iload_n hx hb dX8_add_54 rfl (lv_at hl 0 rfl) ?_
          refine lv_iconst (v := 0) hx hb dX8_add_55 (by decide) ?_
          refine za_cv (wc := zc_ws g o (zc_ad d 70 q14) N16) (wr := []) C hP hD hS [0, 1, 2, 3, 4, 5, 6, 7, 8, 9, 10, 11, 12, 13, 14, 15, 16] [] rfl rfl (by decide) (by decide) (za_runV C hP hD hS [0, 1, 2, 3, 4, 5, 6, 7, 8, 9, 10, 11, 12, 13, 14, 15, 16] rfl (by decide) rfl (kX8_tellLast l g E o (zc_ad d 70 q14) N16 2 0 hI ) w_385 mX8_tellLast 7 rfl rfl rfl rfl hl.1 rfl (Nat.le_of_ble_eq_true rfl) dX8_add_56 ⟨Nat.le_of_ble_eq_true rfl, Nat.le_of_ble_eq_true rfl⟩ (hc.le0 (zc_L_le hI))) (fun N17 H locs hN17 hP hD hS => ?_)
          have hI : zc_I N17 := by rw [hN17]; exact zi_tell hI _ _
          have hc : zb_c N N17 cells slots := by rw [hN17]; exact hc.eq zL_tell
          have hP : va_P g.1 vwCl (zc_ws g o (zc_ad d 70 q14) N17) H := hP
          have hD : va_D A (zc_ws g o (zc_ad d 70 q14) N17) := hD
          refine lv_iinc (v := 3) (lv' := [(2, .int 3), (0, .ref (o 7)), (1, .int k)]) hx hb dX8_add_59 hl (k := 0) rfl (by decide) (by decide) rfl (fun ls hl => ?_)
          refine lv_goto (tgt := 47) hx hb dX8_add_62 (by decide) ?_
          refine lv_iload_n hx hb dX8_add_47 rfl (lv_at hl 0 rfl) ?_
          refine lv_bipush (v := 11) hx hb dX8_add_48 (by decide) ?_
          refine za_icmp_ge (tgt := 65) hx hb dX8_add_50 (by decide) (fun c_50xxx => ?_) (fun c_50xxx => ?_)
          · exact absurd c_50xxx (by decide)
          · refine lv_aload_n hx hb dX8_add_53 rfl (lv_at hl 1 rfl) ?_
            refine lv_iload_n hx hb dX8_add_54 rfl (lv_at hl 0 rfl) ?_
            refine lv_iconst (v := 0) hx hb dX8_add_55 (by decide) ?_
            refine za_cv (wc := zc_ws g o (zc_ad d 70 q14) N17) (wr := []) C hP hD hS [0, 1, 2, 3, 4, 5, 6, 7, 8, 9, 10, 11, 12, 13, 14, 15, 16] [] rfl rfl (by decide) (by decide) (za_runV C hP hD hS [0, 1, 2, 3, 4, 5, 6, 7, 8, 9, 10, 11, 12, 13, 14, 15, 16] rfl (by decide) rfl (kX8_tellLast l g E o (zc_ad d 70 q14) N17 3 0 hI ) w_385 mX8_tellLast 7 rfl rfl rfl rfl hl.1 rfl (Nat.le_of_ble_eq_true rfl) dX8_add_56 ⟨Nat.le_of_ble_eq_true rfl, Nat.le_of_ble_eq_true rfl⟩ (hc.le0 (zc_L_le hI))) (fun N18 H locs hN18 hP hD hS => ?_)
            have hI : zc_I N18 := by rw [hN18]; exact zi_tell hI _ _
            have hc : zb_c N N18 cells slots := by rw [hN18]; exact hc.eq zL_tell
            have hP : va_P g.1 vwCl (zc_ws g o (zc_ad d 70 q14) N18) H := hP
            have hD : va_D A (zc_ws g o (zc_ad d 70 q14) N18) := hD
            refine lv_iinc (v := 4) (lv' := [(2, .int 4), (0, .ref (o 7)), (1, .int k)]) hx hb dX8_add_59 hl (k := 0) rfl (by decide) (by decide) rfl (fun ls hl => ?_)
            refine lv_goto (tgt := 47) hx hb dX8_add_62 (by decide) ?_
            refine lv_iload_n hx hb dX8_add_47 rfl (lv_at hl 0 rfl) ?_
            refine lv_bipush (v := 11) hx hb dX8_add_48 (by decide) ?_
            refine za_icmp_ge (tgt := 65) hx hb dX8_add_50 (by decide) (fun c_50xxxx => ?_) (fun c_50xxxx => ?_)
            · exact absurd c_50xxxx (by decide)
            · refine lv_aload_n hx hb dX8_add_53 rfl (lv_at hl 1 rfl) ?_
              refine lv_iload_n hx hb dX8_add_54 rfl (lv_at hl 0 rfl) ?_
              refine lv_iconst (v := 0) hx hb dX8_add_55 (by decide) ?_
              refine za_cv (wc := zc_ws g o (zc_ad d 70 q14) N18) (wr := []) C hP hD hS [0, 1, 2, 3, 4, 5, 6, 7, 8, 9, 10, 11, 12, 13, 14, 15, 16] [] rfl rfl (by decide) (by decide) (za_runV C hP hD hS [0, 1, 2, 3, 4, 5, 6, 7, 8, 9, 10, 11, 12, 13, 14, 15, 16] rfl (by decide) rfl (kX8_tellLast l g E o (zc_ad d 70 q14) N18 4 0 hI ) w_385 mX8_tellLast 7 rfl rfl rfl rfl hl.1 rfl (Nat.le_of_ble_eq_true rfl) dX8_add_56 ⟨Nat.le_of_ble_eq_true rfl, Nat.le_of_ble_eq_true rfl⟩ (hc.le0 (zc_L_le hI))) (fun N19 H locs hN19 hP hD hS => ?_)
              have hI : zc_I N19 := by rw [hN19]; exact zi_tell hI _ _
              have hc : zb_c N N19 cells slots := by rw [hN19]; exact hc.eq zL_tell
              have hP : va_P g.1 vwCl (zc_ws g o (zc_ad d 70 q14) N19) H := hP
              have hD : va_D A (zc_ws g o (zc_ad d 70 q14) N19) := hD
              refine lv_iinc (v := 5) (lv' := [(2, .int 5), (0, .ref (o 7)), (1, .int k)]) hx hb dX8_add_59 hl (k := 0) rfl (by decide) (by decide) rfl (fun ls hl => ?_)
              refine lv_goto (tgt := 47) hx hb dX8_add_62 (by decide) ?_
              refine lv_iload_n hx hb dX8_add_47 rfl (lv_at hl 0 rfl) ?_
              refine lv_bipush (v := 11) hx hb dX8_add_48 (by decide) ?_
              refine za_icmp_ge (tgt := 65) hx hb dX8_add_50 (by decide) (fun c_50xxxxx => ?_) (fun c_50xxxxx => ?_)
              · exact absurd c_50xxxxx (by decide)
              · refine lv_aload_n hx hb dX8_add_53 rfl (lv_at hl 1 rfl) ?_
                refine lv_iload_n hx hb dX8_add_54 rfl (lv_at hl 0 rfl) ?_
                refine lv_iconst (v := 0) hx hb dX8_add_55 (by decide) ?_
                refine za_cv (wc := zc_ws g o (zc_ad d 70 q14) N19) (wr := []) C hP hD hS [0, 1, 2, 3, 4, 5, 6, 7, 8, 9, 10, 11, 12, 13, 14, 15, 16] [] rfl rfl (by decide) (by decide) (za_runV C hP hD hS [0, 1, 2, 3, 4, 5, 6, 7, 8, 9, 10, 11, 12, 13, 14, 15, 16] rfl (by decide) rfl (kX8_tellLast l g E o (zc_ad d 70 q14) N19 5 0 hI ) w_385 mX8_tellLast 7 rfl rfl rfl rfl hl.1 rfl (Nat.le_of_ble_eq_true rfl) dX8_add_56 ⟨Nat.le_of_ble_eq_true rfl, Nat.le_of_ble_eq_true rfl⟩ (hc.le0 (zc_L_le hI))) (fun N20 H locs hN20 hP hD hS => ?_)
                have hI : zc_I N20 := by rw [hN20]; exact zi_tell hI _ _
                have hc : zb_c N N20 cells slots := by rw [hN20]; exact hc.eq zL_tell
                have hP : va_P g.1 vwCl (zc_ws g o (zc_ad d 70 q14) N20) H := hP
                have hD : va_D A (zc_ws g o (zc_ad d 70 q14) N20) := hD
                refine lv_iinc (v := 6) (lv' := [(2, .int 6), (0, .ref (o 7)), (1, .int k)]) hx hb dX8_add_59 hl (k := 0) rfl (by decide) (by decide) rfl (fun ls hl => ?_)
                refine lv_goto (tgt := 47) hx hb dX8_add_62 (by decide) ?_
                refine lv_iload_n hx hb dX8_add_47 rfl (lv_at hl 0 rfl) ?_
                refine lv_bipush (v := 11) hx hb dX8_add_48 (by decide) ?_
                refine za_icmp_ge (tgt := 65) hx hb dX8_add_50 (by decide) (fun c_50xxxxxx => ?_) (fun c_50xxxxxx => ?_)
                · exact absurd c_50xxxxxx (by decide)
                · refine lv_aload_n hx hb dX8_add_53 rfl (lv_at hl 1 rfl) ?_
                  refine lv_iload_n hx hb dX8_add_54 rfl (lv_at hl 0 rfl) ?_
                  refine lv_iconst (v := 0) hx hb dX8_add_55 (by decide) ?_
                  refine za_cv (wc := zc_ws g o (zc_ad d 70 q14) N20) (wr := []) C hP hD hS [0, 1, 2, 3, 4, 5, 6, 7, 8, 9, 10, 11, 12, 13, 14, 15, 16] [] rfl rfl (by decide) (by decide) (za_runV C hP hD hS [0, 1, 2, 3, 4, 5, 6, 7, 8, 9, 10, 11, 12, 13, 14, 15, 16] rfl (by decide) rfl (kX8_tellLast l g E o (zc_ad d 70 q14) N20 6 0 hI ) w_385 mX8_tellLast 7 rfl rfl rfl rfl hl.1 rfl (Nat.le_of_ble_eq_true rfl) dX8_add_56 ⟨Nat.le_of_ble_eq_true rfl, Nat.le_of_ble_eq_true rfl⟩ (hc.le0 (zc_L_le hI))) (fun N21 H locs hN21 hP hD hS => ?_)
                  have hI : zc_I N21 := by rw [hN21]; exact zi_tell hI _ _
                  have hc : zb_c N N21 cells slots := by rw [hN21]; exact hc.eq zL_tell
                  have hP : va_P g.1 vwCl (zc_ws g o (zc_ad d 70 q14) N21) H := hP
                  have hD : va_D A (zc_ws g o (zc_ad d 70 q14) N21) := hD
                  refine lv_iinc (v := 7) (lv' := [(2, .int 7), (0, .ref (o 7)), (1, .int k)]) hx hb dX8_add_59 hl (k := 0) rfl (by decide) (by decide) rfl (fun ls hl => ?_)
                  refine lv_goto (tgt := 47) hx hb dX8_add_62 (by decide) ?_
                  refine lv_iload_n hx hb dX8_add_47 rfl (lv_at hl 0 rfl) ?_
                  refine lv_bipush (v := 11) hx hb dX8_add_48 (by decide) ?_
                  refine za_icmp_ge (tgt := 65) hx hb dX8_add_50 (by decide) (fun c_50xxxxxxx => ?_) (fun c_50xxxxxxx => ?_)
                  · exact absurd c_50xxxxxxx (by decide)
                  · refine lv_aload_n hx hb dX8_add_53 rfl (lv_at hl 1 rfl) ?_
                    refine lv_iload_n hx hb dX8_add_54 rfl (lv_at hl 0 rfl) ?_
                    refine lv_iconst (v := 0) hx hb dX8_add_55 (by decide) ?_
                    refine za_cv (wc := zc_ws g o (zc_ad d 70 q14) N21) (wr := []) C hP hD hS [0, 1, 2, 3, 4, 5, 6, 7, 8, 9, 10, 11, 12, 13, 14, 15, 16] [] rfl rfl (by decide) (by decide) (za_runV C hP hD hS [0, 1, 2, 3, 4, 5, 6, 7, 8, 9, 10, 11, 12, 13, 14, 15, 16] rfl (by decide) rfl (kX8_tellLast l g E o (zc_ad d 70 q14) N21 7 0 hI ) w_385 mX8_tellLast 7 rfl rfl rfl rfl hl.1 rfl (Nat.le_of_ble_eq_true rfl) dX8_add_56 ⟨Nat.le_of_ble_eq_true rfl, Nat.le_of_ble_eq_true rfl⟩ (hc.le0 (zc_L_le hI))) (fun N22 H locs hN22 hP hD hS => ?_)
                    have hI : zc_I N22 := by rw [hN22]; exact zi_tell hI _ _
                    have hc : zb_c N N22 cells slots := by rw [hN22]; exact hc.eq zL_tell
                    have hP : va_P g.1 vwCl (zc_ws g o (zc_ad d 70 q14) N22) H := hP
                    have hD : va_D A (zc_ws g o (zc_ad d 70 q14) N22) := hD
                    refine lv_iinc (v := 8) (lv' := [(2, .int 8), (0, .ref (o 7)), (1, .int k)]) hx hb dX8_add_59 hl (k := 0) rfl (by decide) (by decide) rfl (fun ls hl => ?_)
                    refine lv_goto (tgt := 47) hx hb dX8_add_62 (by decide) ?_
                    refine lv_iload_n hx hb dX8_add_47 rfl (lv_at hl 0 rfl) ?_
                    refine lv_bipush (v := 11) hx hb dX8_add_48 (by decide) ?_
                    refine za_icmp_ge (tgt := 65) hx hb dX8_add_50 (by decide) (fun c_50xxxxxxxx => ?_) (fun c_50xxxxxxxx => ?_)
                    · exact absurd c_50xxxxxxxx (by decide)
                    · refine lv_aload_n hx hb dX8_add_53 rfl (lv_at hl 1 rfl) ?_
                      refine lv_iload_n hx hb dX8_add_54 rfl (lv_at hl 0 rfl) ?_
                      refine lv_iconst (v := 0) hx hb dX8_add_55 (by decide) ?_
                      refine za_cv (wc := zc_ws g o (zc_ad d 70 q14) N22) (wr := []) C hP hD hS [0, 1, 2, 3, 4, 5, 6, 7, 8, 9, 10, 11, 12, 13, 14, 15, 16] [] rfl rfl (by decide) (by decide) (za_runV C hP hD hS [0, 1, 2, 3, 4, 5, 6, 7, 8, 9, 10, 11, 12, 13, 14, 15, 16] rfl (by decide) rfl (kX8_tellLast l g E o (zc_ad d 70 q14) N22 8 0 hI ) w_385 mX8_tellLast 7 rfl rfl rfl rfl hl.1 rfl (Nat.le_of_ble_eq_true rfl) dX8_add_56 ⟨Nat.le_of_ble_eq_true rfl, Nat.le_of_ble_eq_true rfl⟩ (hc.le0 (zc_L_le hI))) (fun N23 H locs hN23 hP hD hS => ?_)
                      have hI : zc_I N23 := by rw [hN23]; exact zi_tell hI _ _
                      have hc : zb_c N N23 cells slots := by rw [hN23]; exact hc.eq zL_tell
                      have hP : va_P g.1 vwCl (zc_ws g o (zc_ad d 70 q14) N23) H := hP
                      have hD : va_D A (zc_ws g o (zc_ad d 70 q14) N23) := hD
                      refine lv_iinc (v := 9) (lv' := [(2, .int 9), (0, .ref (o 7)), (1, .int k)]) hx hb dX8_add_59 hl (k := 0) rfl (by decide) (by decide) rfl (fun ls hl => ?_)
                      refine lv_goto (tgt := 47) hx hb dX8_add_62 (by decide) ?_
                      refine lv_iload_n hx hb dX8_add_47 rfl (lv_at hl 0 rfl) ?_
                      refine lv_bipush (v := 11) hx hb dX8_add_48 (by decide) ?_
                      refine za_icmp_ge (tgt := 65) hx hb dX8_add_50 (by decide) (fun c_50xxxxxxxxx => ?_) (fun c_50xxxxxxxxx => ?_)
                      · exact absurd c_50xxxxxxxxx (by decide)
                      · refine lv_aload_n hx hb dX8_add_53 rfl (lv_at hl 1 rfl) ?_
                        refine lv_iload_n hx hb dX8_add_54 rfl (lv_at hl 0 rfl) ?_
                        refine lv_iconst (v := 0) hx hb dX8_add_55 (by decide) ?_
                        refine za_cv (wc := zc_ws g o (zc_ad d 70 q14) N23) (wr := []) C hP hD hS [0, 1, 2, 3, 4, 5, 6, 7, 8, 9, 10, 11, 12, 13, 14, 15, 16] [] rfl rfl (by decide) (by decide) (za_runV C hP hD hS [0, 1, 2, 3, 4, 5, 6, 7, 8, 9, 10, 11, 12, 13, 14, 15, 16] rfl (by decide) rfl (kX8_tellLast l g E o (zc_ad d 70 q14) N23 9 0 hI ) w_385 mX8_tellLast 7 rfl rfl rfl rfl hl.1 rfl (Nat.le_of_ble_eq_true rfl) dX8_add_56 ⟨Nat.le_of_ble_eq_true rfl, Nat.le_of_ble_eq_true rfl⟩ (hc.le0 (zc_L_le hI))) (fun N24 H locs hN24 hP hD hS => ?_)
                        have hI : zc_I N24 := by rw [hN24]; exact zi_tell hI _ _
                        have hc : zb_c N N24 cells slots := by rw [hN24]; exact hc.eq zL_tell
                        have hP : va_P g.1 vwCl (zc_ws g o (zc_ad d 70 q14) N24) H := hP
                        have hD : va_D A (zc_ws g o (zc_ad d 70 q14) N24) := hD
                        refine lv_iinc (v := 10) (lv' := [(2, .int 10), (0, .ref (o 7)), (1, .int k)]) hx hb dX8_add_59 hl (k := 0) rfl (by decide) (by decide) rfl (fun ls hl => ?_)
                        refine lv_goto (tgt := 47) hx hb dX8_add_62 (by decide) ?_
                        refine lv_iload_n hx hb dX8_add_47 rfl (lv_at hl 0 rfl) ?_
                        refine lv_bipush (v := 11) hx hb dX8_add_48 (by decide) ?_
                        refine za_icmp_ge (tgt := 65) hx hb dX8_add_50 (by decide) (fun c_50xxxxxxxxxx => ?_) (fun c_50xxxxxxxxxx => ?_)
                        · exact absurd c_50xxxxxxxxxx (by decide)
                        · refine lv_aload_n hx hb dX8_add_53 rfl (lv_at hl 1 rfl) ?_
                          refine lv_iload_n hx hb dX8_add_54 rfl (lv_at hl 0 rfl) ?_
                          refine lv_iconst (v := 0) hx hb dX8_add_55 (by decide) ?_
                          refine za_cv (wc := zc_ws g o (zc_ad d 70 q14) N24) (wr := []) C hP hD hS [0, 1, 2, 3, 4, 5, 6, 7, 8, 9, 10, 11, 12, 13, 14, 15, 16] [] rfl rfl (by decide) (by decide) (za_runV C hP hD hS [0, 1, 2, 3, 4, 5, 6, 7, 8, 9, 10, 11, 12, 13, 14, 15, 16] rfl (by decide) rfl (kX8_tellLast l g E o (zc_ad d 70 q14) N24 10 0 hI ) w_385 mX8_tellLast 7 rfl rfl rfl rfl hl.1 rfl (Nat.le_of_ble_eq_true rfl) dX8_add_56 ⟨Nat.le_of_ble_eq_true rfl, Nat.le_of_ble_eq_true rfl⟩ (hc.le0 (zc_L_le hI))) (fun N25 H locs hN25 hP hD hS => ?_)
                          have hI : zc_I N25 := by rw [hN25]; exact zi_tell hI _ _
                          have hc : zb_c N N25 cells slots := by rw [hN25]; exact hc.eq zL_tell
                          have hP : va_P g.1 vwCl (zc_ws g o (zc_ad d 70 q14) N25) H := hP
                          have hD : va_D A (zc_ws g o (zc_ad d 70 q14) N25) := hD
                          refine lv_iinc (v := 11) (lv' := [(2, .int 11), (0, .ref (o 7)), (1, .int k)]) hx hb dX8_add_59 hl (k := 0) rfl (by decide) (by decide) rfl (fun ls hl => ?_)
                          refine lv_goto (tgt := 47) hx hb dX8_add_62 (by decide) ?_
                          refine lv_iload_n hx hb dX8_add_47 rfl (lv_at hl 0 rfl) ?_
                          refine lv_bipush (v := 11) hx hb dX8_add_48 (by decide) ?_
                          refine za_icmp_ge (tgt := 65) hx hb dX8_add_50 (by decide) (fun c_50xxxxxxxxxxx => ?_) (fun c_50xxxxxxxxxxx => ?_)
                          · refine lv_aload_n hx hb dX8_add_65 rfl (lv_at hl 1 rfl) ?_
                            refine lv_iconst (v := 0) hx hb dX8_add_66 (by decide) ?_
                            refine lv_iload_n hx hb dX8_add_67 rfl (lv_at hl 2 rfl) ?_
                            refine za_cv (wc := zc_ws g o (zc_ad d 70 q14) N25) (wr := []) C hP hD hS [0, 1, 2, 3, 4, 5, 6, 7, 8, 9, 10, 11, 12, 13, 14, 15, 16] [] rfl rfl (by decide) (by decide) (za_runV C hP hD hS [0, 1, 2, 3, 4, 5, 6, 7, 8, 9, 10, 11, 12, 13, 14, 15, 16] rfl (by decide) rfl (kX8_tellLast l g E o (zc_ad d 70 q14) N25 0 k hI ) w_385 mX8_tellLast 7 rfl rfl rfl rfl hl.1 rfl (Nat.le_of_ble_eq_true rfl) dX8_add_68 ⟨Nat.le_of_ble_eq_true rfl, Nat.le_of_ble_eq_true rfl⟩ (hc.le0 (zc_L_le hI))) (fun N26 H locs hN26 hP hD hS => ?_)
                            have hI : zc_I N26 := by rw [hN26]; exact zi_tell hI _ _
                            have hc : zb_c N N26 cells slots := by rw [hN26]; exact hc.eq zL_tell
                            have hP : va_P g.1 vwCl (zc_ws g o (zc_ad d 70 q14) N26) H := hP
                            have hD : va_D A (zc_ws g o (zc_ad d 70 q14) N26) := hD
                            refine lv_aload_n hx hb dX8_add_71 rfl (lv_at hl 1 rfl) ?_
                            refine lv_bipush (v := 6) hx hb dX8_add_72 (by decide) ?_
                            refine lv_iconst (v := (-1)) hx hb dX8_add_74 (by decide) ?_
                            refine za_cv (wc := zc_ws g o (zc_ad d 70 q14) N26) (wr := []) C hP hD hS [0, 1, 2, 3, 4, 5, 6, 7, 8, 9, 10, 11, 12, 13, 14, 15, 16] [] rfl rfl (by decide) (by decide) (za_runV C hP hD hS [0, 1, 2, 3, 4, 5, 6, 7, 8, 9, 10, 11, 12, 13, 14, 15, 16] rfl (by decide) rfl (kX8_tellLast l g E o (zc_ad d 70 q14) N26 6 (-1) hI ) w_385 mX8_tellLast 7 rfl rfl rfl rfl hl.1 rfl (Nat.le_of_ble_eq_true rfl) dX8_add_75 ⟨Nat.le_of_ble_eq_true rfl, Nat.le_of_ble_eq_true rfl⟩ (hc.le0 (zc_L_le hI))) (fun N27 H locs hN27 hP hD hS => ?_)
                            have hI : zc_I N27 := by rw [hN27]; exact zi_tell hI _ _
                            have hc : zb_c N N27 cells slots := by rw [hN27]; exact hc.eq zL_tell
                            have hP : va_P g.1 vwCl (zc_ws g o (zc_ad d 70 q14) N27) H := hP
                            have hD : va_D A (zc_ws g o (zc_ad d 70 q14) N27) := hD
                            subst hN27
                            subst hN26
                            subst hN25
                            subst hN24
                            subst hN23
                            subst hN22
                            subst hN21
                            subst hN20
                            subst hN19
                            subst hN18
                            subst hN17
                            subst hN16
                            subst hN15
                            exact zc_rvg hQ hx hb hr hlocks hK hP hD hS hc (by simp [zc_add, zc_more70, zc_zero, zq_upd, c_14, c_50, c_50x, c_50xx, c_50xxx, c_50xxxx, c_50xxxxx, c_50xxxxxx, c_50xxxxxxx, c_50xxxxxxxx, c_50xxxxxxxxx, c_50xxxxxxxxxx, c_50xxxxxxxxxxx]) dX8_add_78
                          · exact absurd c_50xxxxxxxxxxx (by decide)
set_option maxHeartbeats 4000000 in
set_option maxRecDepth 100000 in
theorem kX5_addFromStart (l : Launch) (g : za_G) (E : za_E) (o d : Nat → Nat) (N : zc_N) (k n : Int32) (hI : zc_I N) (hfu : N.1 71 < 16384) : zb_Cv l g E yX5_addFromStart cX5_addFromStart 3 4 (zc_rc N) (zc_rs N) (zc_L (zc_from N k n) - zc_L N) (2 * (zc_L (zc_from N k n) - zc_L N)) [.ref (o 5), .int k, .int n] (zc_ws g o d N) (fun u : zc_N × (Nat → Nat) => u.1 = zc_from N k n) (fun u => zc_ws g o u.2 u.1) := by
  refine zb_begin (by decide) (Nat.le_of_ble_eq_true rfl) RX5 rfl ?_
  intro p e s m args below meth co A ls Q H locs C hQ hr hlocks hnm hS hP hD hl
  obtain ⟨hx, hb, hml, hown, hts, hK, hA, hE⟩ := id C
  have hl : lv_has ls 3 [(0, .ref (o 5)), (1, .int k), (2, .int n)] := hl
  have hc : zb_c N N 0 0 := zb_c.rf
  revert hc
  refine (fun (z9 : ∀ cells slots : Nat, zb_c N N cells slots → W p l e (za_R 4 (zc_rc N) (zc_rs N)) s m args below meth co H locs cells slots Q (F0 m 0 ls [])) hc => z9 0 0 hc) (fun cells slots hc => ?_)
  refine lv_aload_n hx hb dX5_addFromStart_0 rfl (lv_at hl 0 rfl) ?_
  refine va_get (ci := 5) (v := .ref (o 7)) hx hb hts iX5 hown hK hP 5 rfl rfl 1 (by decide) (hts _ w_222) (fun _ h9 => h9) rfl dX5_addFromStart_1 ?_
  refine lv_iload_n hx hb dX5_addFromStart_4 rfl (lv_at hl 1 rfl) ?_
  refine zc_callv C hP hD hS hc (zl_add _) (zb_runV C hP hD hS [0, 1, 2, 3, 4, 5, 6, 7, 8, 9, 10, 11, 12, 13, 14, 15, 16] rfl (by decide) rfl (kX8_add l g E o d N k hI hfu) w_373 mX8_add 7 rfl rfl rfl rfl hl.1 rfl (Nat.le_of_ble_eq_true rfl) dX5_addFromStart_5 ⟨Nat.le_of_ble_eq_true rfl, Nat.le_of_ble_eq_true rfl⟩ (hc.room (zc_L_le hI))) (fun N1 d1 H locs cells slots hN1 hc hP hD hS => ?_)
  have hI : zc_I N1 := by rw [hN1]; exact zi_add hI hfu _
  refine lv_aload_n hx hb dX5_addFromStart_8 rfl (lv_at hl 0 rfl) ?_
  refine va_get (ci := 5) (v := .ref (o 7)) hx hb hts iX5 hown hK hP 5 rfl rfl 1 (by decide) (hts _ w_222) (fun _ h9 => h9) rfl dX5_addFromStart_9 ?_
  refine lv_iconst (v := 1) hx hb dX5_addFromStart_12 (by decide) ?_
  refine lv_aload_n hx hb dX5_addFromStart_13 rfl (lv_at hl 0 rfl) ?_
  refine va_get (ci := 5) (v := .int (N1.1 54)) hx hb hts iX5 hown hK hP 5 rfl rfl 4 (by decide) (hts _ w_225) (fun _ h9 => h9) rfl dX5_addFromStart_14 ?_
  refine za_cv (wc := zc_ws g o d1 N1) (wr := []) C hP hD hS [0, 1, 2, 3, 4, 5, 6, 7, 8, 9, 10, 11, 12, 13, 14, 15, 16] [] rfl rfl (by decide) (by decide) (za_runV C hP hD hS [0, 1, 2, 3, 4, 5, 6, 7, 8, 9, 10, 11, 12, 13, 14, 15, 16] rfl (by decide) rfl (kX8_tellLast l g E o d1 N1 1 (N1.1 54) hI ) w_389 mX8_tellLast 7 rfl rfl rfl rfl hl.1 rfl (Nat.le_of_ble_eq_true rfl) dX5_addFromStart_17 ⟨Nat.le_of_ble_eq_true rfl, Nat.le_of_ble_eq_true rfl⟩ (hc.le0 (zc_L_le hI))) (fun N2 H locs hN2 hP hD hS => ?_)
  have hI : zc_I N2 := by rw [hN2]; exact zi_tell hI _ _
  have hc : zb_c N N2 cells slots := by rw [hN2]; exact hc.eq zL_tell
  have hP : va_P g.1 vwCl (zc_ws g o d1 N2) H := hP
  have hD : va_D A (zc_ws g o d1 N2) := hD
  refine lv_aload_n hx hb dX5_addFromStart_20 rfl (lv_at hl 0 rfl) ?_
  refine va_get (ci := 5) (v := .ref (o 7)) hx hb hts iX5 hown hK hP 5 rfl rfl 1 (by decide) (hts _ w_222) (fun _ h9 => h9) rfl dX5_addFromStart_21 ?_
  refine lv_iconst (v := 2) hx hb dX5_addFromStart_24 (by decide) ?_
  refine lv_aload_n hx hb dX5_addFromStart_25 rfl (lv_at hl 0 rfl) ?_
  refine va_get (ci := 5) (v := .int (N2.1 55)) hx hb hts iX5 hown hK hP 5 rfl rfl 5 (by decide) (hts _ w_226) (fun _ h9 => h9) rfl dX5_addFromStart_26 ?_
  refine za_cv (wc := zc_ws g o d1 N2) (wr := []) C hP hD hS [0, 1, 2, 3, 4, 5, 6, 7, 8, 9, 10, 11, 12, 13, 14, 15, 16] [] rfl rfl (by decide) (by decide) (za_runV C hP hD hS [0, 1, 2, 3, 4, 5, 6, 7, 8, 9, 10, 11, 12, 13, 14, 15, 16] rfl (by decide) rfl (kX8_tellLast l g E o d1 N2 2 (N2.1 55) hI ) w_389 mX8_tellLast 7 rfl rfl rfl rfl hl.1 rfl (Nat.le_of_ble_eq_true rfl) dX5_addFromStart_29 ⟨Nat.le_of_ble_eq_true rfl, Nat.le_of_ble_eq_true rfl⟩ (hc.le0 (zc_L_le hI))) (fun N3 H locs hN3 hP hD hS => ?_)
  have hI : zc_I N3 := by rw [hN3]; exact zi_tell hI _ _
  have hc : zb_c N N3 cells slots := by rw [hN3]; exact hc.eq zL_tell
  have hP : va_P g.1 vwCl (zc_ws g o d1 N3) H := hP
  have hD : va_D A (zc_ws g o d1 N3) := hD
  refine lv_aload_n hx hb dX5_addFromStart_32 rfl (lv_at hl 0 rfl) ?_
  refine va_get (ci := 5) (v := .ref (o 7)) hx hb hts iX5 hown hK hP 5 rfl rfl 1 (by decide) (hts _ w_222) (fun _ h9 => h9) rfl dX5_addFromStart_33 ?_
  refine lv_iconst (v := 3) hx hb dX5_addFromStart_36 (by decide) ?_
  refine lv_aload_n hx hb dX5_addFromStart_37 rfl (lv_at hl 0 rfl) ?_
  refine va_get (ci := 5) (v := .int (N3.1 56)) hx hb hts iX5 hown hK hP 5 rfl rfl 6 (by decide) (hts _ w_227) (fun _ h9 => h9) rfl dX5_addFromStart_38 ?_
  refine za_cv (wc := zc_ws g o d1 N3) (wr := []) C hP hD hS [0, 1, 2, 3, 4, 5, 6, 7, 8, 9, 10, 11, 12, 13, 14, 15, 16] [] rfl rfl (by decide) (by decide) (za_runV C hP hD hS [0, 1, 2, 3, 4, 5, 6, 7, 8, 9, 10, 11, 12, 13, 14, 15, 16] rfl (by decide) rfl (kX8_tellLast l g E o d1 N3 3 (N3.1 56) hI ) w_389 mX8_tellLast 7 rfl rfl rfl rfl hl.1 rfl (Nat.le_of_ble_eq_true rfl) dX5_addFromStart_41 ⟨Nat.le_of_ble_eq_true rfl, Nat.le_of_ble_eq_true rfl⟩ (hc.le0 (zc_L_le hI))) (fun N4 H locs hN4 hP hD hS => ?_)
  have hI : zc_I N4 := by rw [hN4]; exact zi_tell hI _ _
  have hc : zb_c N N4 cells slots := by rw [hN4]; exact hc.eq zL_tell
  have hP : va_P g.1 vwCl (zc_ws g o d1 N4) H := hP
  have hD : va_D A (zc_ws g o d1 N4) := hD
  refine lv_aload_n hx hb dX5_addFromStart_44 rfl (lv_at hl 0 rfl) ?_
  refine va_get (ci := 5) (v := .ref (o 7)) hx hb hts iX5 hown hK hP 5 rfl rfl 1 (by decide) (hts _ w_222) (fun _ h9 => h9) rfl dX5_addFromStart_45 ?_
  refine lv_iconst (v := 4) hx hb dX5_addFromStart_48 (by decide) ?_
  refine lv_iload_n hx hb dX5_addFromStart_49 rfl (lv_at hl 2 rfl) ?_
  refine za_cv (wc := zc_ws g o d1 N4) (wr := []) C hP hD hS [0, 1, 2, 3, 4, 5, 6, 7, 8, 9, 10, 11, 12, 13, 14, 15, 16] [] rfl rfl (by decide) (by decide) (za_runV C hP hD hS [0, 1, 2, 3, 4, 5, 6, 7, 8, 9, 10, 11, 12, 13, 14, 15, 16] rfl (by decide) rfl (kX8_tellLast l g E o d1 N4 4 n hI ) w_389 mX8_tellLast 7 rfl rfl rfl rfl hl.1 rfl (Nat.le_of_ble_eq_true rfl) dX5_addFromStart_50 ⟨Nat.le_of_ble_eq_true rfl, Nat.le_of_ble_eq_true rfl⟩ (hc.le0 (zc_L_le hI))) (fun N5 H locs hN5 hP hD hS => ?_)
  have hI : zc_I N5 := by rw [hN5]; exact zi_tell hI _ _
  have hc : zb_c N N5 cells slots := by rw [hN5]; exact hc.eq zL_tell
  have hP : va_P g.1 vwCl (zc_ws g o d1 N5) H := hP
  have hD : va_D A (zc_ws g o d1 N5) := hD
  refine lv_aload_n hx hb dX5_addFromStart_53 rfl (lv_at hl 0 rfl) ?_
  refine va_get (ci := 5) (v := .ref (o 7)) hx hb hts iX5 hown hK hP 5 rfl rfl 1 (by decide) (hts _ w_222) (fun _ h9 => h9) rfl dX5_addFromStart_54 ?_
  refine lv_bipush (v := 9) hx hb dX5_addFromStart_57 (by decide) ?_
  refine lv_aload_n hx hb dX5_addFromStart_59 rfl (lv_at hl 0 rfl) ?_
  refine va_get (ci := 5) (v := .int (N5.1 57)) hx hb hts iX5 hown hK hP 5 rfl rfl 7 (by decide) (hts _ w_228) (fun _ h9 => h9) rfl dX5_addFromStart_60 ?_
  refine za_cv (wc := zc_ws g o d1 N5) (wr := []) C hP hD hS [0, 1, 2, 3, 4, 5, 6, 7, 8, 9, 10, 11, 12, 13, 14, 15, 16] [] rfl rfl (by decide) (by decide) (za_runV C hP hD hS [0, 1, 2, 3, 4, 5, 6, 7, 8, 9, 10, 11, 12, 13, 14, 15, 16] rfl (by decide) rfl (kX8_tellLast l g E o d1 N5 9 (N5.1 57) hI ) w_389 mX8_tellLast 7 rfl rfl rfl rfl hl.1 rfl (Nat.le_of_ble_eq_true rfl) dX5_addFromStart_63 ⟨Nat.le_of_ble_eq_true rfl, Nat.le_of_ble_eq_true rfl⟩ (hc.le0 (zc_L_le hI))) (fun N6 H locs hN6 hP hD hS => ?_)
  have hI : zc_I N6 := by rw [hN6]; exact zi_tell hI _ _
  have hc : zb_c N N6 cells slots := by rw [hN6]; exact hc.eq zL_tell
  have hP : va_P g.1 vwCl (zc_ws g o d1 N6) H := hP
  have hD : va_D A (zc_ws g o d1 N6) := hD
  refine lv_aload_n hx hb dX5_addFromStart_66 rfl (lv_at hl 0 rfl) ?_
  refine va_get (ci := 5) (v := .ref (o 7)) hx hb hts iX5 hown hK hP 5 rfl rfl 1 (by decide) (hts _ w_222) (fun _ h9 => h9) rfl dX5_addFromStart_67 ?_
  refine lv_bipush (v := 8) hx hb dX5_addFromStart_70 (by decide) ?_
  refine lv_aload_n hx hb dX5_addFromStart_72 rfl (lv_at hl 0 rfl) ?_
  refine va_get (ci := 5) (v := .ref (o 7)) hx hb hts iX5 hown hK hP 5 rfl rfl 1 (by decide) (hts _ w_222) (fun _ h9 => h9) rfl dX5_addFromStart_73 ?_
  refine va_get (ci := 7) (v := .ref (o 0)) hx hb hts iX8 hown hK hP 7 rfl rfl 2 (by decide) (hts _ w_172) (fun _ h9 => h9) rfl dX5_addFromStart_76 ?_
  refine va_get (ci := 0) (v := .int (N6.1 1)) hx hb hts iX0 hown hK hP 0 rfl rfl 1 (by decide) (hts _ w_134) (fun _ h9 => h9) rfl dX5_addFromStart_79 ?_
  refine lv_aload_n hx hb dX5_addFromStart_82 rfl (lv_at hl 0 rfl) ?_
  refine va_get (ci := 5) (v := .int (N6.1 57)) hx hb hts iX5 hown hK hP 5 rfl rfl 7 (by decide) (hts _ w_228) (fun _ h9 => h9) rfl dX5_addFromStart_83 ?_
  refine lv_isub hx hb dX5_addFromStart_86 ?_
  refine za_cv (wc := zc_ws g o d1 N6) (wr := []) C hP hD hS [0, 1, 2, 3, 4, 5, 6, 7, 8, 9, 10, 11, 12, 13, 14, 15, 16] [] rfl rfl (by decide) (by decide) (za_runV C hP hD hS [0, 1, 2, 3, 4, 5, 6, 7, 8, 9, 10, 11, 12, 13, 14, 15, 16] rfl (by decide) rfl (kX8_tellLast l g E o d1 N6 8 ((N6.1 1) - (N6.1 57)) hI ) w_389 mX8_tellLast 7 rfl rfl rfl rfl hl.1 rfl (Nat.le_of_ble_eq_true rfl) dX5_addFromStart_87 ⟨Nat.le_of_ble_eq_true rfl, Nat.le_of_ble_eq_true rfl⟩ (hc.le0 (zc_L_le hI))) (fun N7 H locs hN7 hP hD hS => ?_)
  have hI : zc_I N7 := by rw [hN7]; exact zi_tell hI _ _
  have hc : zb_c N N7 cells slots := by rw [hN7]; exact hc.eq zL_tell
  have hP : va_P g.1 vwCl (zc_ws g o d1 N7) H := hP
  have hD : va_D A (zc_ws g o d1 N7) := hD
  refine lv_aload_n hx hb dX5_addFromStart_90 rfl (lv_at hl 0 rfl) ?_
  refine lv_iload_n hx hb dX5_addFromStart_91 rfl (lv_at hl 1 rfl) ?_
  refine za_ci (wc := []) (wr := zc_ws g o d1 N7) C hP hD hS [] [0, 1, 2, 3, 4, 5, 6, 7, 8, 9, 10, 11, 12, 13, 14, 15, 16] rfl rfl (by decide) (by decide) (za_runS C hP hD hS [] rfl (by decide) rfl (kX5_mayEndLine l g E k ) w_390 mX5_mayEndLine rfl hl.1 rfl (Nat.le_of_ble_eq_true rfl) dX5_addFromStart_92 ⟨Nat.le_of_ble_eq_true rfl, Nat.le_of_ble_eq_true rfl⟩ (hc.le0 (zc_L_le hI))) (fun r8 _ H locs hr8 hP hD hS => ?_)
  subst hr8
  have hP : va_P g.1 vwCl (zc_ws g o d1 N7) H := hP
  have hD : va_D A (zc_ws g o d1 N7) := hD
  refine va_put (ci := 5) (fs := zc_f5 o d1 N7.1) (v := .int (zk_ends k)) hx hb hts iX5 tyX5 tyX5_ok nmX5 hown hK hP hD hS 5 rfl rfl 8 (by decide) (hts _ w_229) (fun _ h9 => h9) rfl (tyX5_ok 8 (by decide)) (z_nar01 (zk_ends_01 _)) (z_fit01 (zk_ends_01 _)) (Nat.le_of_ble_eq_true rfl) dX5_addFromStart_95 (fun H locs hP hD hS => ?_)
  have hP := zc_pf58 (X := N7) hP
  have hD := zc_df58 (X := N7) hD
  have hc : zb_c N (zc_s N7 58 (zk_ends k)) cells slots := hc
  have hI : zc_I (zc_s N7 58 (zk_ends k)) := hI
  have f2 : N2.1 = N1.1 := by rw [hN2]; exact zc_tell_1
  have f3 : N3.1 = N1.1 := by rw [hN3, zc_tell_1]; exact f2
  have f4 : N4.1 = N1.1 := by rw [hN4, zc_tell_1]; exact f3
  have f5 : N5.1 = N1.1 := by rw [hN5, zc_tell_1]; exact f4
  rw [f2] at hN3
  rw [f3] at hN4
  rw [f5] at hN6
  exact zc_rvg hQ hx hb hr hlocks hK hP hD hS hc (by unfold zc_from zc_from2 zc_from1; rw [← hN1, ← hN2, ← hN3, ← hN4, ← hN5, ← hN6, ← hN7]) dX5_addFromStart_98
set_option maxHeartbeats 4000000 in
set_option maxRecDepth 100000 in
theorem kX5_endLine (l : Launch) (g : za_G) (E : za_E) (o d : Nat → Nat) (N : zc_N)  (hI : zc_I N) : zb_Ci l g E yX5_endLine cX5_endLine 1 ((some .boolean)) 5 (zc_rc N) (zc_rs N) (zc_L (zc_endLine N) - zc_L N) (2 * (zc_L (zc_endLine N) - zc_L N)) [.ref (o 5)] (zc_ws g o d N) (fun r (u : zc_N × (Nat → Nat)) => r = zk_endLine N ∧ u.1 = zc_endLine N) (fun u => zc_ws g o u.2 u.1) := by
  refine zb_begin (by decide) (Nat.le_of_ble_eq_true rfl) RX5 rfl ?_
  intro p e s m args below meth co A ls Q H locs C hQ hr hlocks hnm hS hP hD hl
  obtain ⟨hx, hb, hml, hown, hts, hK, hA, hE⟩ := id C
  have hl : lv_has ls 1 [(0, .ref (o 5))] := hl
  have hc : zb_c N N 0 0 := zb_c.rf
  revert hc
  refine (fun (z9 : ∀ cells slots : Nat, zb_c N N cells slots → W p l e (za_R 5 (zc_rc N) (zc_rs N)) s m args below meth co H locs cells slots Q (F0 m 0 ls [])) hc => z9 0 0 hc) (fun cells slots hc => ?_)
  refine lv_aload_n hx hb dX5_endLine_0 rfl (lv_at hl 0 rfl) ?_
  refine va_get (ci := 5) (v := .int (N.1 58)) hx hb hts iX5 hown hK hP 5 rfl rfl 8 (by decide) (hts _ w_229) (fun _ h9 => h9) rfl dX5_endLine_1 ?_
  refine lv_if_ne (tgt := 9) hx hb dX5_endLine_4 (by decide) (fun c_4 => ?_) (fun c_4 => ?_)
  · refine lv_aload_n hx hb dX5_endLine_9 rfl (lv_at hl 0 rfl) ?_
    refine va_get (ci := 5) (v := .ref (o 7)) hx hb hts iX5 hown hK hP 5 rfl rfl 1 (by decide) (hts _ w_222) (fun _ h9 => h9) rfl dX5_endLine_10 ?_
    refine za_ci (wc := zc_ws g o d N) (wr := []) C hP hD hS [0, 1, 2, 3, 4, 5, 6, 7, 8, 9, 10, 11, 12, 13, 14, 15, 16] [] rfl rfl (by decide) (by decide) (za_runV C hP hD hS [0, 1, 2, 3, 4, 5, 6, 7, 8, 9, 10, 11, 12, 13, 14, 15, 16] rfl (by decide) rfl (kX8_isFull l g E o d N  hI ) w_361 mX8_isFull 7 rfl rfl rfl rfl hl.1 rfl (Nat.le_of_ble_eq_true rfl) dX5_endLine_13 ⟨Nat.le_of_ble_eq_true rfl, Nat.le_of_ble_eq_true rfl⟩ (hc.le0 (zc_L_le hI))) (fun r1 _ H locs hr1 hP hD hS => ?_)
    subst hr1
    have hP : va_P g.1 vwCl (zc_ws g o d N) H := hP
    have hD : va_D A (zc_ws g o d N) := hD
    refine lv_if_eq (tgt := 32) hx hb dX5_endLine_16 (by decide) (fun c_16 => ?_) (fun c_16 => ?_)
    · refine lv_aload_n hx hb dX5_endLine_32 rfl (lv_at hl 0 rfl) ?_
      refine lv_bipush (v := 85) hx hb dX5_endLine_33 (by decide) ?_
      refine lv_iconst (v := 0) hx hb dX5_endLine_35 (by decide) ?_
      refine zc_callv C hP hD hS hc (zl_from _ _) (zb_runV C hP hD hS [0, 1, 2, 3, 4, 5, 6, 7, 8, 9, 10, 11, 12, 13, 14, 15, 16] rfl (by decide) rfl (kX5_addFromStart l g E o d N 85 0 hI (z_full c_16)) w_369 mX5_addFromStart 5 rfl rfl rfl rfl hl.1 rfl (Nat.le_of_ble_eq_true rfl) dX5_endLine_36 ⟨Nat.le_of_ble_eq_true rfl, Nat.le_of_ble_eq_true rfl⟩ (hc.room (zc_L_le hI))) (fun N2 d2 H locs cells slots hN2 hc hP hD hS => ?_)
      have hI : zc_I N2 := by rw [hN2]; exact zi_from hI (z_full c_16) _ _
      refine lv_aload_n hx hb dX5_endLine_39 rfl (lv_at hl 0 rfl) ?_
      refine va_get (ci := 5) (v := .ref (o 7)) hx hb hts iX5 hown hK hP 5 rfl rfl 1 (by decide) (hts _ w_222) (fun _ h9 => h9) rfl dX5_endLine_40 ?_
      refine lv_iconst (v := 5) hx hb dX5_endLine_43 (by decide) ?_
      refine lv_iconst (v := 1) hx hb dX5_endLine_44 (by decide) ?_
      refine za_cv (wc := zc_ws g o d2 N2) (wr := []) C hP hD hS [0, 1, 2, 3, 4, 5, 6, 7, 8, 9, 10, 11, 12, 13, 14, 15, 16] [] rfl rfl (by decide) (by decide) (za_runV C hP hD hS [0, 1, 2, 3, 4, 5, 6, 7, 8, 9, 10, 11, 12, 13, 14, 15, 16] rfl (by decide) rfl (kX8_tellLast l g E o d2 N2 5 1 hI ) w_389 mX8_tellLast 7 rfl rfl rfl rfl hl.1 rfl (Nat.le_of_ble_eq_true rfl) dX5_endLine_45 ⟨Nat.le_of_ble_eq_true rfl, Nat.le_of_ble_eq_true rfl⟩ (hc.le0 (zc_L_le hI))) (fun N3 H locs hN3 hP hD hS => ?_)
      have hI : zc_I N3 := by rw [hN3]; exact zi_tell hI _ _
      have hc : zb_c N N3 cells slots := by rw [hN3]; exact hc.eq zL_tell
      have hP : va_P g.1 vwCl (zc_ws g o d2 N3) H := hP
      have hD : va_D A (zc_ws g o d2 N3) := hD
      refine lv_iconst (v := 1) hx hb dX5_endLine_48 (by decide) ?_
      subst hN3
      subst hN2
      exact zc_rig hQ hx hb hr hlocks hK hP hD hS hc rfl (by simp [zk_endLine, zc_endLine, zq_upd, c_4, eq_true c_16]) (by simp [zk_endLine, zc_endLine, zq_upd, c_4, eq_true c_16]) dX5_endLine_49
    · refine lv_aload_n hx hb dX5_endLine_19 rfl (lv_at hl 0 rfl) ?_
      refine va_get (ci := 5) (v := .ref (o 6)) hx hb hts iX5 hown hK hP 5 rfl rfl 0 (by decide) (hts _ w_221) (fun _ h9 => h9) rfl dX5_endLine_20 ?_
      refine lv_aload_n hx hb dX5_endLine_23 rfl (lv_at hl 0 rfl) ?_
      refine va_get (ci := 5) (v := .int (N.1 54)) hx hb hts iX5 hown hK hP 5 rfl rfl 4 (by decide) (hts _ w_225) (fun _ h9 => h9) rfl dX5_endLine_24 ?_
      refine za_cv (wc := zc_ws g o d N) (wr := []) C hP hD hS [0, 1, 2, 3, 4, 5, 6, 7, 8, 9, 10, 11, 12, 13, 14, 15, 16] [] rfl rfl (by decide) (by decide) (za_runV C hP hD hS [0, 1, 2, 3, 4, 5, 6, 7, 8, 9, 10, 11, 12, 13, 14, 15, 16] rfl (by decide) rfl (kX7_refuseAt l g E o d N (N.1 54) hI ) w_365 mX7_refuseAt 6 rfl rfl rfl rfl hl.1 rfl (Nat.le_of_ble_eq_true rfl) dX5_endLine_27 ⟨Nat.le_of_ble_eq_true rfl, Nat.le_of_ble_eq_true rfl⟩ (hc.le0 (zc_L_le hI))) (fun N4 H locs hN4 hP hD hS => ?_)
      have hI : zc_I N4 := by rw [hN4]; exact zi_refuseAt hI _
      have hc : zb_c N N4 cells slots := by rw [hN4]; exact hc.eq zL_refuseAt
      have hP : va_P g.1 vwCl (zc_ws g o d N4) H := hP
      have hD : va_D A (zc_ws g o d N4) := hD
      refine lv_iconst (v := 0) hx hb dX5_endLine_30 (by decide) ?_
      subst hN4
      exact zc_rig hQ hx hb hr hlocks hK hP hD hS hc rfl (by simp [zk_endLine, zc_endLine, zq_upd, c_4, c_16]) (by simp [zk_endLine, zc_endLine, zq_upd, c_4, c_16]) dX5_endLine_31
  · refine lv_iconst (v := 1) hx hb dX5_endLine_7 (by decide) ?_
    exact zc_rig hQ hx hb hr hlocks hK hP hD hS hc rfl (by simp [zk_endLine, zc_endLine, zq_upd, eq_true c_4]) (by simp [zk_endLine, zc_endLine, zq_upd, eq_true c_4]) dX5_endLine_8
set_option maxHeartbeats 4000000 in
set_option maxRecDepth 100000 in
theorem kX5_put (l : Launch) (g : za_G) (E : za_E) (o d : Nat → Nat) (N : zc_N) (k : Int32) (hI : zc_I N) (hfu : N.1 71 < 16384) : zb_Cv l g E yX5_put cX5_put 2 5 (zc_rc N) (zc_rs N) (zc_L (zc_putT N k) - zc_L N) (2 * (zc_L (zc_putT N k) - zc_L N)) [.ref (o 5), .int k] (zc_ws g o d N) (fun u : zc_N × (Nat → Nat) => u.1 = zc_putT N k) (fun u => zc_ws g o u.2 u.1) := by
  refine zb_begin (by decide) (Nat.le_of_ble_eq_true rfl) RX5 rfl ?_
  intro p e s m args below meth co A ls Q H locs C hQ hr hlocks hnm hS hP hD hl
  obtain ⟨hx, hb, hml, hown, hts, hK, hA, hE⟩ := id C
  have hl : lv_has ls 2 [(0, .ref (o 5)), (1, .int k)] := hl
  have hc : zb_c N N 0 0 := zb_c.rf
  revert hc
  refine (fun (z9 : ∀ cells slots : Nat, zb_c N N cells slots → W p l e (za_R 5 (zc_rc N) (zc_rs N)) s m args below meth co H locs cells slots Q (F0 m 0 ls [])) hc => z9 0 0 hc) (fun cells slots hc => ?_)
  refine lv_aload_n hx hb dX5_put_0 rfl (lv_at hl 0 rfl) ?_
  refine lv_iload_n hx hb dX5_put_1 rfl (lv_at hl 1 rfl) ?_
  refine lv_aload_n hx hb dX5_put_2 rfl (lv_at hl 0 rfl) ?_
  refine va_get (ci := 5) (v := .ref (o 6)) hx hb hts iX5 hown hK hP 5 rfl rfl 0 (by decide) (hts _ w_221) (fun _ h9 => h9) rfl dX5_put_3 ?_
  refine va_get (ci := 6) (v := .int (N.1 62)) hx hb hts iX7 hown hK hP 6 rfl rfl 2 (by decide) (hts _ w_97) (fun _ h9 => h9) rfl dX5_put_6 ?_
  refine lv_aload_n hx hb dX5_put_9 rfl (lv_at hl 0 rfl) ?_
  refine va_get (ci := 5) (v := .int (N.1 54)) hx hb hts iX5 hown hK hP 5 rfl rfl 4 (by decide) (hts _ w_225) (fun _ h9 => h9) rfl dX5_put_10 ?_
  refine lv_isub hx hb dX5_put_13 ?_
  refine zc_callv C hP hD hS hc (zl_from _ _) (zb_runV C hP hD hS [0, 1, 2, 3, 4, 5, 6, 7, 8, 9, 10, 11, 12, 13, 14, 15, 16] rfl (by decide) rfl (kX5_addFromStart l g E o d N k ((N.1 62) - (N.1 54)) hI hfu) w_369 mX5_addFromStart 5 rfl rfl rfl rfl hl.1 rfl (Nat.le_of_ble_eq_true rfl) dX5_put_14 ⟨Nat.le_of_ble_eq_true rfl, Nat.le_of_ble_eq_true rfl⟩ (hc.room (zc_L_le hI))) (fun N1 d1 H locs cells slots hN1 hc hP hD hS => ?_)
  have hI : zc_I N1 := by rw [hN1]; exact zi_from hI hfu _ _
  subst hN1
  exact zc_rvg hQ hx hb hr hlocks hK hP hD hS hc (by simp [zc_putT, zq_upd]) dX5_put_17
set_option maxHeartbeats 4000000 in
set_option maxRecDepth 100000 in
theorem kX5_begin (l : Launch) (g : za_G) (E : za_E) (o d : Nat → Nat) (N : zc_N)  : za_Cv l g E yX5_begin cX5_begin 1 3 0 0 [.ref (o 5)] (zc_ws g o d N) (fun u : zc_N => u = zc_begin N) (fun u => zc_ws g o d u) := by
  refine za_begin (by decide) (Nat.le_of_ble_eq_true rfl) RX5 rfl ?_
  intro p e s m args below meth co A ls Q H locs C hQ hr hlocks hnm hS hP hD hl
  obtain ⟨hx, hb, hml, hown, hts, hK, hA, hE⟩ := id C
  have hl : lv_has ls 1 [(0, .ref (o 5))] := hl
  refine lv_aload_n hx hb dX5_begin_0 rfl (lv_at hl 0 rfl) ?_
  refine va_get (ci := 5) (v := .ref (o 7)) hx hb hts iX5 hown hK hP 5 rfl rfl 1 (by decide) (hts _ w_222) (fun _ h9 => h9) rfl dX5_begin_1 ?_
  refine za_cv (wc := zc_ws g o d N) (wr := []) C hP hD hS [0, 1, 2, 3, 4, 5, 6, 7, 8, 9, 10, 11, 12, 13, 14, 15, 16] [] rfl rfl (by decide) (by decide) (za_runV C hP hD hS [0, 1, 2, 3, 4, 5, 6, 7, 8, 9, 10, 11, 12, 13, 14, 15, 16] rfl (by decide) rfl (kX8_clear l g E o d N  ) w_328 mX8_clear 7 rfl rfl rfl rfl hl.1 rfl (Nat.le_of_ble_eq_true rfl) dX5_begin_4 ⟨Nat.le_of_ble_eq_true rfl, Nat.le_of_ble_eq_true rfl⟩ ⟨Nat.le_refl _, Nat.le_refl _⟩) (fun N1 H locs hN1 hP hD hS => ?_)
  have hP : va_P g.1 vwCl (zc_ws g o d N1) H := hP
  have hD : va_D A (zc_ws g o d N1) := hD
  refine lv_aload_n hx hb dX5_begin_7 rfl (lv_at hl 0 rfl) ?_
  refine va_get (ci := 5) (v := .ref (o 6)) hx hb hts iX5 hown hK hP 5 rfl rfl 0 (by decide) (hts _ w_221) (fun _ h9 => h9) rfl dX5_begin_8 ?_
  refine za_cv (wc := zc_ws g o d N1) (wr := []) C hP hD hS [0, 1, 2, 3, 4, 5, 6, 7, 8, 9, 10, 11, 12, 13, 14, 15, 16] [] rfl rfl (by decide) (by decide) (za_runV C hP hD hS [0, 1, 2, 3, 4, 5, 6, 7, 8, 9, 10, 11, 12, 13, 14, 15, 16] rfl (by decide) rfl (kX7_rewind l g E o d N1  ) w_336 mX7_rewind 6 rfl rfl rfl rfl hl.1 rfl (Nat.le_of_ble_eq_true rfl) dX5_begin_11 ⟨Nat.le_of_ble_eq_true rfl, Nat.le_of_ble_eq_true rfl⟩ ⟨Nat.le_refl _, Nat.le_refl _⟩) (fun N2 H locs hN2 hP hD hS => ?_)
  have hP : va_P g.1 vwCl (zc_ws g o d N2) H := hP
  have hD : va_D A (zc_ws g o d N2) := hD
  refine lv_aload_n hx hb dX5_begin_14 rfl (lv_at hl 0 rfl) ?_
  refine lv_iconst (v := 0) hx hb dX5_begin_15 (by decide) ?_
  refine va_put (ci := 5) (fs := zc_f5 o d N2.1) (v := .int 0) hx hb hts iX5 tyX5 tyX5_ok nmX5 hown hK hP hD hS 5 rfl rfl 8 (by decide) (hts _ w_229) (fun _ h9 => h9) rfl (tyX5_ok 8 (by decide)) rfl rfl (Nat.le_of_ble_eq_true rfl) dX5_begin_16 (fun H locs hP hD hS => ?_)
  have hP := zc_pf58 (X := N2) hP
  have hD := zc_df58 (X := N2) hD
  subst hN2
  subst hN1
  exact zc_rv hQ hx hb hr hlocks hK hP hD hS (by simp [zc_begin, zq_upd]) (Nat.le_refl _) (Nat.le_refl _) dX5_begin_19
set_option maxHeartbeats 4000000 in
set_option maxRecDepth 100000 in
theorem kX5_goesOn (l : Launch) (g : za_G) (E : za_E) (o d : Nat → Nat) (N : zc_N)  (hI : zc_I N) : za_Ci l g E yX5_goesOn cX5_goesOn 1 ((some .boolean)) 1 0 0 [.ref (o 5)] (zc_ws g o d N) (fun r (_ : Unit) => r = zk_goes N) (fun _ => zc_ws g o d N) := by
  refine za_begin (by decide) (Nat.le_of_ble_eq_true rfl) RX5 rfl ?_
  intro p e s m args below meth co A ls Q H locs C hQ hr hlocks hnm hS hP hD hl
  obtain ⟨hx, hb, hml, hown, hts, hK, hA, hE⟩ := id C
  have hl : lv_has ls 1 [(0, .ref (o 5))] := hl
  refine lv_aload_n hx hb dX5_goesOn_0 rfl (lv_at hl 0 rfl) ?_
  refine va_get (ci := 5) (v := .ref (o 6)) hx hb hts iX5 hown hK hP 5 rfl rfl 0 (by decide) (hts _ w_221) (fun _ h9 => h9) rfl dX5_goesOn_1 ?_
  refine va_get (ci := 6) (v := .int (N.1 65)) hx hb hts iX7 hown hK hP 6 rfl rfl 5 (by decide) (hts _ w_103) (fun _ h9 => h9) rfl dX5_goesOn_4 ?_
  refine lv_if_ne (tgt := 25) hx hb dX5_goesOn_7 (by decide) (fun c_7 => ?_) (fun c_7 => ?_)
  · refine lv_iconst (v := 0) hx hb dX5_goesOn_25 (by decide) ?_
    exact zc_ri hQ hx hb hr hlocks hK hP hD hS rfl (by simp [zk_goes, zq_upd, c_7]) (Nat.le_refl _) (Nat.le_refl _) dX5_goesOn_26
  · refine lv_aload_n hx hb dX5_goesOn_10 rfl (lv_at hl 0 rfl) ?_
    refine va_get (ci := 5) (v := .ref (o 6)) hx hb hts iX5 hown hK hP 5 rfl rfl 0 (by decide) (hts _ w_221) (fun _ h9 => h9) rfl dX5_goesOn_11 ?_
    refine za_ci (wc := zc_ws g o d N) (wr := []) C hP hD hS [0, 1, 2, 3, 4, 5, 6, 7, 8, 9, 10, 11, 12, 13, 14, 15, 16] [] rfl rfl (by decide) (by decide) (za_runV C hP hD hS [0, 1, 2, 3, 4, 5, 6, 7, 8, 9, 10, 11, 12, 13, 14, 15, 16] rfl (by decide) rfl (kX7_here l g E o d N  hI ) w_345 mX7_here 6 rfl rfl rfl rfl hl.1 rfl (Nat.le_of_ble_eq_true rfl) dX5_goesOn_14 ⟨Nat.le_of_ble_eq_true rfl, Nat.le_of_ble_eq_true rfl⟩ ⟨Nat.le_refl _, Nat.le_refl _⟩) (fun r1 _ H locs hr1 hP hD hS => ?_)
    subst hr1
    have hP : va_P g.1 vwCl (zc_ws g o d N) H := hP
    have hD : va_D A (zc_ws g o d N) := hD
    refine lv_iconst (v := (-1)) hx hb dX5_goesOn_17 (by decide) ?_
    refine lv_icmp_eq (tgt := 25) hx hb dX5_goesOn_18 (by decide) (fun c_18 => ?_) (fun c_18 => ?_)
    · refine lv_iconst (v := 0) hx hb dX5_goesOn_25 (by decide) ?_
      exact zc_ri hQ hx hb hr hlocks hK hP hD hS rfl (by simp [zk_goes, zq_upd, eq_true c_7, eq_true c_18]) (Nat.le_refl _) (Nat.le_refl _) dX5_goesOn_26
    · refine lv_iconst (v := 1) hx hb dX5_goesOn_21 (by decide) ?_
      refine lv_goto (tgt := 26) hx hb dX5_goesOn_22 (by decide) ?_
      exact zc_ri hQ hx hb hr hlocks hK hP hD hS rfl (by simp [zk_goes, zq_upd, eq_true c_7, c_18]) (Nat.le_refl _) (Nat.le_refl _) dX5_goesOn_26
