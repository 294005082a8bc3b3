theorem zw_303 : Cond.native ⟨"java/lang/System", "arraycopy", "(Ljava/lang/Object;ILjava/lang/Object;II)V"⟩ ∈ wT := wc_288 _ (.tail _ (.tail _ (.tail _ (.tail _ (.tail _ (.tail _ (.tail _ (.tail _ (.tail _ (.tail _ (.tail _ (.tail _ (.tail _ (.tail _ (.head _)))))))))))))))
set_option maxHeartbeats 4000000 in
set_option maxRecDepth 100000 in
theorem kJ7_copyI (l : Launch) (g : za_G) (E : za_E) (a n0 n1 : Nat) (f : Nat → Int32) (h01 : n0 < n1) (h16 : n1 ≤ 400000) : za_Cr l g E yJ7_copyOf_59c91 cJ7_copyOf_59c91 3 (some (.array .int)) 1 1 n1 [.ref a, .int (nI n1)] [(a, .inl (g.2.2.1, n0, .inl f))] (fun _ : Unit => True) (fun _ q => [(a, .inl (g.2.2.1, n0, .inl f)), (q, .inl (g.2.2.1, n1, .inl (fun k => if k < n0 then f k else 0)))]) := by
  refine za_begin (by decide) (Nat.le_of_ble_eq_true rfl) RJ7 rfl ?_
  intro p e s m args below meth co A ls Q H locs C hQ hr hlocks hnm hS hP hD hl
  obtain ⟨hx, hb, hml, hown, hts, hK, hA, hE⟩ := id C
  have hl : lv_has ls 3 [(0, .ref a), (1, .int (nI n1))] := hl
  refine lv_iload_n hx hb dJ7_copyOf_59c91_0 rfl (lv_at hl 1 rfl) ?_
  refine lv_aload_n hx hb dJ7_copyOf_59c91_1 rfl (lv_at hl 0 rfl) ?_
  refine va_alen (v := nI n0) hx hb hK hP 0 1 rfl rfl rfl dJ7_copyOf_59c91_2 ?_
  refine lv_icmp_ne (tgt := 14) hx hb dJ7_copyOf_59c91_3 (by decide) (fun c_3 => ?_) (fun c_3 => absurd (z_injC (by omega) (by omega) c_3) (by omega))
  refine lv_iload_n hx hb dJ7_copyOf_59c91_14 rfl (lv_at hl 1 rfl) ?_
  refine za_newa (atype := .int) (ty := .int) (a0 := (n1, .inl (fun _ => 0))) hx hb (hts _ w_140) rfl hK 1 rfl hP hD hS hA (fun _ => rfl) (nI_pos (by omega)) (nI_clamp (by omega)) (by show n1 * 4 ≤ 536870912; omega) (Nat.le_refl 1) (by show 0 + n1 ≤ n1; omega) dJ7_copyOf_59c91_15 (fun q H hP hD hS => ?_)
  have hP : va_P g.1 vwCl [(a, .inl (g.2.2.1, n0, .inl f)), (q, .inl (g.2.2.1, n1, .inl (fun _ => 0)))] H := hP
  have hD : va_D A [(a, .inl (g.2.2.1, n0, .inl f)), (q, .inl (g.2.2.1, n1, .inl (fun _ => 0)))] := hD
  refine lv_astore_n (lv' := [(2, .ref q), (0, .ref a), (1, .int (nI n1))]) hx hb dJ7_copyOf_59c91_17 rfl hl (by decide) rfl (fun ls hl => ?_)
  refine lv_aload_n hx hb dJ7_copyOf_59c91_18 rfl (lv_at hl 1 rfl) ?_
  refine lv_iconst (v := 0) hx hb dJ7_copyOf_59c91_19 (by decide) ?_
  refine lv_aload_n hx hb dJ7_copyOf_59c91_20 rfl (lv_at hl 0 rfl) ?_
  refine lv_iconst (v := 0) hx hb dJ7_copyOf_59c91_21 (by decide) ?_
  refine lv_aload_n hx hb dJ7_copyOf_59c91_22 rfl (lv_at hl 1 rfl) ?_
  refine va_alen (v := nI n0) hx hb hK hP 0 1 rfl rfl rfl dJ7_copyOf_59c91_23 ?_
  refine lv_iload_n hx hb dJ7_copyOf_59c91_24 rfl (lv_at hl 2 rfl) ?_
  refine va_mmin hx hb (hml.trans hl.1.symm) hown (hts _ w_298) (hts _ w_299) (hts _ w_68) (hts _ w_300) (by show 1 ≤ 1; decide) (by show 4 + 13 ≤ 32; decide) (by show 0 + 1 ≤ 1; decide) (by show 0 + n1 ≤ n1; omega) dJ7_copyOf_59c91_25 ?_
  rw [if_neg (nI_nlt (by omega) (by omega))]
  have hc0 : (nI n0).toNatClampNeg = n0 := nI_clamp (by omega)
  refine va_copyi (ty := .int) hx hb (hml.trans hl.1.symm) hown (hts _ w_301) (hts _ zw_303) (hts _ w_302) (hts _ w_69) hK hP hD hS 0 1 1 1 rfl rfl rfl rfl rfl (by decide) (by decide) (nI_pos (by omega)) (by rw [hc0]; show 0 + n0 ≤ n0; omega) (by rw [hc0]; show 0 + n0 ≤ n1; omega) (fun i hi => rfl) (by show 1 ≤ 1; decide) (by show 0 + (nativeFrameWords "java/lang/System" "arraycopy" 5 + 11) ≤ 32; decide) dJ7_copyOf_59c91_28 (fun H locs hP hD hS => ?_)
  have ef : va_cpy f (fun _ => (0 : Int32)) (0 : Int32).toNatClampNeg (0 : Int32).toNatClampNeg (nI n0).toNatClampNeg = fun k => if k < n0 then f k else 0 := by
    rw [hc0]
    funext k
    show (if 0 ≤ k ∧ k < 0 + n0 then f (0 + (k - 0)) else 0) = _
    by_cases hk : k < n0
    · rw [if_pos hk, if_pos ⟨Nat.zero_le _, by omega⟩, Nat.zero_add, Nat.sub_zero]
    · rw [if_neg hk, if_neg (by omega)]
  rw [ef] at hP hD
  refine lv_aload_n hx hb dJ7_copyOf_59c91_31 rfl (lv_at hl 0 rfl) ?_
  exact za_rr hQ hx hb hr (Or.inr ⟨_, rfl⟩) hlocks hK hP hD hS () trivial [0, 1] rfl (by decide) rfl (Nat.le_refl 1) (by show 0 + n1 ≤ n1; omega) dJ7_copyOf_59c91_32
set_option maxHeartbeats 4000000 in
set_option maxRecDepth 100000 in
theorem kJ7_copyB (l : Launch) (g : za_G) (E : za_E) (a n0 n1 : Nat) (f : Nat → Int32) (h01 : n0 < n1) (h16 : n1 ≤ 400000) (hfy : ∀ i : Nat, i < n0 → fits .byte (.int (f i)) = true) : za_Cr l g E yJ7_copyOf_9075b cJ7_copyOf_9075b 3 (some (.array .byte)) 1 1 n1 [.ref a, .int (nI n1)] [(a, .inl (g.2.1, n0, .inl f))] (fun _ : Unit => True) (fun _ q => [(a, .inl (g.2.1, n0, .inl f)), (q, .inl (g.2.1, n1, .inl (fun k => if k < n0 then f k else 0)))]) := by
  refine za_begin (by decide) (Nat.le_of_ble_eq_true rfl) RJ7 rfl ?_
  intro p e s m args below meth co A ls Q H locs C hQ hr hlocks hnm hS hP hD hl
  obtain ⟨hx, hb, hml, hown, hts, hK, hA, hE⟩ := id C
  have hl : lv_has ls 3 [(0, .ref a), (1, .int (nI n1))] := hl
  refine lv_iload_n hx hb dJ7_copyOf_9075b_0 rfl (lv_at hl 1 rfl) ?_
  refine lv_aload_n hx hb dJ7_copyOf_9075b_1 rfl (lv_at hl 0 rfl) ?_
  refine va_alen (v := nI n0) hx hb hK hP 0 0 rfl rfl rfl dJ7_copyOf_9075b_2 ?_
  refine lv_icmp_ne (tgt := 14) hx hb dJ7_copyOf_9075b_3 (by decide) (fun c_3 => ?_) (fun c_3 => absurd (z_injC (by omega) (by omega) c_3) (by omega))
  refine lv_iload_n hx hb dJ7_copyOf_9075b_14 rfl (lv_at hl 1 rfl) ?_
  refine za_newa (atype := .byte) (ty := .byte) (a0 := (n1, .inl (fun _ => 0))) hx hb (hts _ w_117) rfl hK 0 rfl hP hD hS hA (fun _ => rfl) (nI_pos (by omega)) (nI_clamp (by omega)) (by show n1 * 1 ≤ 536870912; omega) (Nat.le_refl 1) (by show 0 + n1 ≤ n1; omega) dJ7_copyOf_9075b_15 (fun q H hP hD hS => ?_)
  have hP : va_P g.1 vwCl [(a, .inl (g.2.1, n0, .inl f)), (q, .inl (g.2.1, n1, .inl (fun _ => 0)))] H := hP
  have hD : va_D A [(a, .inl (g.2.1, n0, .inl f)), (q, .inl (g.2.1, n1, .inl (fun _ => 0)))] := hD
  refine lv_astore_n (lv' := [(2, .ref q), (0, .ref a), (1, .int (nI n1))]) hx hb dJ7_copyOf_9075b_17 rfl hl (by decide) rfl (fun ls hl => ?_)
  refine lv_aload_n hx hb dJ7_copyOf_9075b_18 rfl (lv_at hl 1 rfl) ?_
  refine lv_iconst (v := 0) hx hb dJ7_copyOf_9075b_19 (by decide) ?_
  refine lv_aload_n hx hb dJ7_copyOf_9075b_20 rfl (lv_at hl 0 rfl) ?_
  refine lv_iconst (v := 0) hx hb dJ7_copyOf_9075b_21 (by decide) ?_
  refine lv_aload_n hx hb dJ7_copyOf_9075b_22 rfl (lv_at hl 1 rfl) ?_
  refine va_alen (v := nI n0) hx hb hK hP 0 0 rfl rfl rfl dJ7_copyOf_9075b_23 ?_
  refine lv_iload_n hx hb dJ7_copyOf_9075b_24 rfl (lv_at hl 2 rfl) ?_
  refine va_mmin hx hb (hml.trans hl.1.symm) hown (hts _ w_298) (hts _ w_299) (hts _ w_68) (hts _ w_300) (by show 1 ≤ 1; decide) (by show 4 + 13 ≤ 32; decide) (by show 0 + 1 ≤ 1; decide) (by show 0 + n1 ≤ n1; omega) dJ7_copyOf_9075b_25 ?_
  rw [if_neg (nI_nlt (by omega) (by omega))]
  have hc0 : (nI n0).toNatClampNeg = n0 := nI_clamp (by omega)
  refine va_copyi (ty := .byte) hx hb (hml.trans hl.1.symm) hown (hts _ w_301) (hts _ zw_303) (hts _ w_302) (hts _ w_69) hK hP hD hS 0 1 0 0 rfl rfl rfl rfl rfl (by decide) (by decide) (nI_pos (by omega)) (by rw [hc0]; show 0 + n0 ≤ n0; omega) (by rw [hc0]; show 0 + n0 ≤ n1; omega) (fun i hi => hfy _ (by rw [hc0] at hi; show 0 + i < n0; omega)) (by show 1 ≤ 1; decide) (by show 0 + (nativeFrameWords "java/lang/System" "arraycopy" 5 + 11) ≤ 32; decide) dJ7_copyOf_9075b_28 (fun H locs hP hD hS => ?_)
  have ef : va_cpy f (fun _ => (0 : Int32)) (0 : Int32).toNatClampNeg (0 : Int32).toNatClampNeg (nI n0).toNatClampNeg = fun k => if k < n0 then f k else 0 := by
    rw [hc0]
    funext k
    show (if 0 ≤ k ∧ k < 0 + n0 then f (0 + (k - 0)) else 0) = _
    by_cases hk : k < n0
    · rw [if_pos hk, if_pos ⟨Nat.zero_le _, by omega⟩, Nat.zero_add, Nat.sub_zero]
    · rw [if_neg hk, if_neg (by omega)]
  rw [ef] at hP hD
  refine lv_aload_n hx hb dJ7_copyOf_9075b_31 rfl (lv_at hl 0 rfl) ?_
  exact za_rr hQ hx hb hr (Or.inr ⟨_, rfl⟩) hlocks hK hP hD hS () trivial [0, 1] rfl (by decide) rfl (Nat.le_refl 1) (by show 0 + n1 ≤ n1; omega) dJ7_copyOf_9075b_32
set_option maxHeartbeats 4000000 in
theorem kL_fill (l : Launch) (g : za_G) (E : za_E) (a n : Nat) (f : Nat → Int32) (v : Int32) (hn : n ≤ 400000) {p : Program} {e : Env} {s : State} {m : MethodId} {args : Array Value} {below : List Frame} {meth : Method} {co : Code} {A : Nat → Prop} {Q : State → Prop} (C : za_H p s m args co cJ7_fill_53178 4 RJ7 g E A) (hQ : Q = MQ below (za_qv g (fun _ : Unit => True) (fun _ => [(a, .inl (g.2.2.1, n, .inl (fun k => if k < n then v else f k)))]) A) args s 0 0 A) (hr : meth.sig.returnType = none) (hlocks : meth.locks = false) : ∀ (n_ j : Nat), j ≤ n → n - j < n_ → ∀ (H : Heap) (locs : List Loc) (ls : Array Slot), va_S A s.heap H locs → va_P g.1 vwCl [(a, .inl (g.2.2.1, n, .inl (fun k => if k < j then v else f k)))] H → va_D A [(a, .inl (g.2.2.1, n, .inl (fun k => if k < j then v else f k)))] → lv_has ls 4 [(0, .ref a), (1, .int v), (2, .int (nI j)), (3, .int (nI n))] → W p l e (za_R 0 0 0) s m args below meth co H locs 0 0 Q (F0 m 5 ls []) := by
  obtain ⟨hx, hb, hml, hown, hts, hK, hA, hE⟩ := id C
  intro n_
  induction n_ with
  | zero => intro j hj hm; exact absurd hm (Nat.not_lt_zero _)
  | succ n_ ih =>
    intro j hj hm H locs ls hS hP hD hl
    refine lv_iload_n hx hb dJ7_fill_53178_5 rfl (lv_at hl 2 rfl) ?_
    refine lv_iload_n hx hb dJ7_fill_53178_6 rfl (lv_at hl 3 rfl) ?_
    refine za_icmp_ge (tgt := 20) hx hb dJ7_fill_53178_7 (by decide) (fun c_7 => ?_) (fun c_7 => ?_)
    · have hj9 : j = n := by
        rcases Nat.lt_or_ge j n with h9 | h9
        · exact absurd (nI_lt h9 (by omega)) c_7
        · omega
      subst hj9
      exact za_rv hQ hx hb hr hlocks hK hP hD hS () trivial [0] rfl (by decide) rfl (Nat.le_refl 0) (Nat.le_refl 0) dJ7_fill_53178_20
    · have hlt : j < n := (nI_ltI (by omega) (by omega)).mp c_7
      refine lv_aload_n hx hb dJ7_fill_53178_10 rfl (lv_at hl 0 rfl) ?_
      refine lv_iload_n hx hb dJ7_fill_53178_11 rfl (lv_at hl 2 rfl) ?_
      refine lv_iload_n hx hb dJ7_fill_53178_12 rfl (lv_at hl 1 rfl) ?_
      refine va_iast hx hb hK hP hD hS 0 1 rfl rfl (vp_in_nI hlt (by omega)) dJ7_fill_53178_13 (fun H locs hP hD hS => ?_)
      refine lv_iinc (v := nI (j + 1)) (lv' := [(2, .int (nI (j + 1))), (0, .ref a), (1, .int v), (3, .int (nI n))]) hx hb dJ7_fill_53178_14 hl (k := 2) rfl (nI_1 _) (by decide) rfl (fun ls hl => ?_)
      refine lv_goto (tgt := 5) hx hb dJ7_fill_53178_17 (by decide) ?_
      have ef : upd (fun k => if k < j then v else f k) (nI j).toNatClampNeg v = fun k => if k < j + 1 then v else f k := by
        rw [nI_clamp (by omega)]
        funext k
        rw [zq_upd]
        by_cases hk : k = j
        · rw [if_pos hk, if_pos (by omega)]
        · rw [if_neg hk]
          by_cases h9 : k < j
          · rw [if_pos h9, if_pos (by omega)]
          · rw [if_neg h9, if_neg (by omega)]
      have hP : va_P g.1 vwCl [(a, .inl (g.2.2.1, n, .inl (fun k => if k < j + 1 then v else f k)))] H := by rw [← ef]; exact hP
      have hD : va_D A [(a, .inl (g.2.2.1, n, .inl (fun k => if k < j + 1 then v else f k)))] := by rw [← ef]; exact hD
      exact ih (j + 1) (by omega) (by omega) H locs ls hS hP hD (lv_sub hl [1, 2, 0, 3] rfl)
set_option maxHeartbeats 4000000 in
theorem kJ7_fill (l : Launch) (g : za_G) (E : za_E) (a n : Nat) (f : Nat → Int32) (v : Int32) (hn : n ≤ 400000) : za_Cv l g E yJ7_fill_53178 cJ7_fill_53178 4 0 0 0 [.ref a, .int v] [(a, .inl (g.2.2.1, n, .inl f))] (fun _ : Unit => True) (fun _ => [(a, .inl (g.2.2.1, n, .inl (fun k => if k < n then v else f k)))]) := by
  refine za_begin (by decide) (Nat.le_of_ble_eq_true rfl) RJ7 rfl ?_
  intro p e s m args below meth co A ls Q H locs C hQ hr hlocks hnm hS hP hD hl
  obtain ⟨hx, hb, hml, hown, hts, hK, hA, hE⟩ := id C
  have hl : lv_has ls 4 [(0, .ref a), (1, .int v)] := hl
  refine lv_iconst (v := 0) hx hb dJ7_fill_53178_0 (by decide) ?_
  refine lv_istore_n (lv' := [(2, .int (nI 0)), (0, .ref a), (1, .int v)]) hx hb dJ7_fill_53178_1 rfl hl (by decide) rfl (fun ls hl => ?_)
  refine lv_aload_n hx hb dJ7_fill_53178_2 rfl (lv_at hl 1 rfl) ?_
  refine va_alen (v := nI n) hx hb hK hP 0 1 rfl rfl rfl dJ7_fill_53178_3 ?_
  refine lv_istore_n (lv' := [(3, .int (nI n)), (2, .int (nI 0)), (0, .ref a), (1, .int v)]) hx hb dJ7_fill_53178_4 rfl hl (by decide) rfl (fun ls hl => ?_)
  have ef : f = fun k => if k < 0 then v else f k := by
    funext k
    rw [if_neg (Nat.not_lt_zero _)]
  have hP : va_P g.1 vwCl [(a, .inl (g.2.2.1, n, .inl (fun k => if k < 0 then v else f k)))] H := by rw [← ef]; exact hP
  have hD : va_D A [(a, .inl (g.2.2.1, n, .inl (fun k => if k < 0 then v else f k)))] := by rw [← ef]; exact hD
  exact kL_fill l g E a n f v hn C hQ hr hlocks _ 0 (Nat.zero_le _) (Nat.lt_succ_self _) H locs ls hS hP hD (lv_sub hl [2, 3, 1, 0] rfl)
