set_option maxHeartbeats 8000000 in
set_option maxRecDepth 100000 in
theorem kX0_init (l : Launch) (g : za_G) (E : za_E) (h : Nat) : za_Cv l g E yX0_init cX0_init 1 1 1 256 [.ref h] [(h, .inr (0, [.null, .int 0]))] (fun _ : Nat → Nat => True) (fun qs => [(h, .inr (0, [.ref (qs 0), .int 0])), (qs 0, .inl (g.2.1, 256, .inl (fun _ => 0)))]) := by
  refine za_begin (by decide) (Nat.le_of_ble_eq_true rfl) RX0 rfl ?_
  intro p e s m args below meth co A ls Q H locs C hQ hr hlocks hnm hS hP hD hl
  obtain ⟨hx, hb, hml, hown, hts, hK, hA, hE⟩ := id C
  have hl : lv_has ls 1 [(0, .ref h)] := hl
  refine lv_aload_n hx hb dX0_init_0 rfl (lv_at hl 0 rfl) ?_
  refine W.objInit hx hb hown (hts _ w_129) (hts _ w_85) (hts _ w_86) rfl (hl.1.trans hml.symm) rfl dX0_init_1 (by decide) (by show 2 * 0 + 0 + 12 ≤ 32; decide) ?_
  refine lv_aload_n hx hb dX0_init_4 rfl (lv_at hl 0 rfl) ?_
  refine lv_sipush (v := 256) hx hb dX0_init_5 (by decide) ?_
  refine za_newa (atype := .byte) (ty := .byte) (N' := 256) (a0 := (256, .inl (fun _ => 0))) hx hb (hts _ w_117) rfl hK 0 rfl hP hD hS hA (fun _ => rfl) (by decide) (by decide) (by decide) (Nat.le_of_ble_eq_true rfl) (Nat.le_of_ble_eq_true rfl) dX0_init_8 (fun q1 H hP hD hS => ?_)
  have hP : va_P g.1 vwCl [(h, .inr (0, [.null, .int 0])), (q1, .inl (g.2.1, 256, .inl (fun _ => 0)))] H := hP
  have hD : va_D A [(h, .inr (0, [.null, .int 0])), (q1, .inl (g.2.1, 256, .inl (fun _ => 0)))] := hD
  refine va_put (ci := 0) (v := .ref q1) hx hb hts iX0 tyX0 tyX0_ok nmX0 hown hK hP hD hS 0 rfl rfl 0 (by decide) (hts _ w_130) (fun _ h9 => h9) rfl (tyX0_ok 0 (by decide)) rfl rfl (Nat.le_of_ble_eq_true rfl) dX0_init_10 (fun H locs hP hD hS => ?_)
  have hP : va_P g.1 vwCl [(h, .inr (0, [.ref q1, .int 0])), (q1, .inl (g.2.1, 256, .inl (fun _ => 0)))] H := hP
  have hD : va_D A [(h, .inr (0, [.ref q1, .int 0])), (q1, .inl (g.2.1, 256, .inl (fun _ => 0)))] := hD
  refine lv_aload_n hx hb dX0_init_13 rfl (lv_at hl 0 rfl) ?_
  refine lv_iconst (v := 0) hx hb dX0_init_14 (by decide) ?_
  refine va_put (ci := 0) (v := .int 0) hx hb hts iX0 tyX0 tyX0_ok nmX0 hown hK hP hD hS 0 rfl rfl 1 (by decide) (hts _ w_131) (fun _ h9 => h9) rfl (tyX0_ok 1 (by decide)) rfl rfl (Nat.le_of_ble_eq_true rfl) dX0_init_15 (fun H locs hP hD hS => ?_)
  have hP : va_P g.1 vwCl [(h, .inr (0, [.ref q1, .int 0])), (q1, .inl (g.2.1, 256, .inl (fun _ => 0)))] H := hP
  have hD : va_D A [(h, .inr (0, [.ref q1, .int 0])), (q1, .inl (g.2.1, 256, .inl (fun _ => 0)))] := hD
  exact za_rv hQ hx hb hr hlocks hK hP hD hS (fun k => [q1].getD k 0) trivial [0, 1] rfl (by decide) rfl (Nat.le_of_ble_eq_true rfl) (Nat.le_of_ble_eq_true rfl) dX0_init_18
set_option maxHeartbeats 8000000 in
set_option maxRecDepth 100000 in
theorem kX2_init (l : Launch) (g : za_G) (E : za_E) (h : Nat) : za_Cv l g E yX2_init cX2_init 1 1 4 608 [.ref h] [(h, .inr (2, [.null, .null, .null, .null, .int 0]))] (fun _ : Nat → Nat => True) (fun qs => [(h, .inr (2, [.ref (qs 0), .ref (qs 1), .ref (qs 2), .ref (qs 3), .int 0])), (qs 1, .inl (g.2.2.1, 32, .inl (fun _ => 0))), (qs 2, .inl (g.2.2.1, 32, .inl (fun _ => 0))), (qs 3, .inl (g.2.2.1, 32, .inl (fun _ => 0))), (qs 0, .inl (g.2.2.1, 512, .inl (fun k => if k < 512 then -1 else (fun _ => 0) k)))]) := by
  refine za_begin (by decide) (Nat.le_of_ble_eq_true rfl) RX2 rfl ?_
  intro p e s m args below meth co A ls Q H locs C hQ hr hlocks hnm hS hP hD hl
  obtain ⟨hx, hb, hml, hown, hts, hK, hA, hE⟩ := id C
  have hl : lv_has ls 1 [(0, .ref h)] := hl
  refine lv_aload_n hx hb dX2_init_0 rfl (lv_at hl 0 rfl) ?_
  refine W.objInit hx hb hown (hts _ w_146) (hts _ w_85) (hts _ w_86) rfl (hl.1.trans hml.symm) rfl dX2_init_1 (by decide) (by show 2 * 0 + 0 + 12 ≤ 32; decide) ?_
  refine lv_aload_n hx hb dX2_init_4 rfl (lv_at hl 0 rfl) ?_
  refine lv_sipush (v := 512) hx hb dX2_init_5 (by decide) ?_
  refine za_newa (atype := .int) (ty := .int) (N' := 512) (a0 := (512, .inl (fun _ => 0))) hx hb (hts _ w_140) rfl hK 1 rfl hP hD hS hA (fun _ => rfl) (by decide) (by decide) (by decide) (Nat.le_of_ble_eq_true rfl) (Nat.le_of_ble_eq_true rfl) dX2_init_8 (fun q1 H hP hD hS => ?_)
  have hP : va_P g.1 vwCl [(h, .inr (2, [.null, .null, .null, .null, .int 0])), (q1, .inl (g.2.2.1, 512, .inl (fun _ => 0)))] H := hP
  have hD : va_D A [(h, .inr (2, [.null, .null, .null, .null, .int 0])), (q1, .inl (g.2.2.1, 512, .inl (fun _ => 0)))] := hD
  refine va_putF (ci := 2) (v := .ref q1) hx hb hts iX2 tyX2 tyX2_ok nmX2 hown hK hP hD hS 0 rfl rfl 0 (by decide) (hts _ w_150) (fun _ h9 => h9) rfl hnm rfl (tyX2_ok 0 (by decide)) rfl rfl (Nat.le_of_ble_eq_true rfl) dX2_init_10 (fun H locs hP hD hS => ?_)
  have hP : va_P g.1 vwCl [(h, .inr (2, [.ref q1, .null, .null, .null, .int 0])), (q1, .inl (g.2.2.1, 512, .inl (fun _ => 0)))] H := hP
  have hD : va_D A [(h, .inr (2, [.ref q1, .null, .null, .null, .int 0])), (q1, .inl (g.2.2.1, 512, .inl (fun _ => 0)))] := hD
  refine lv_aload_n hx hb dX2_init_13 rfl (lv_at hl 0 rfl) ?_
  refine lv_bipush (v := 32) hx hb dX2_init_14 (by decide) ?_
  refine za_newa (atype := .int) (ty := .int) (N' := 32) (a0 := (32, .inl (fun _ => 0))) hx hb (hts _ w_140) rfl hK 1 rfl hP hD hS hA (fun _ => rfl) (by decide) (by decide) (by decide) (Nat.le_of_ble_eq_true rfl) (Nat.le_of_ble_eq_true rfl) dX2_init_16 (fun q2 H hP hD hS => ?_)
  have hP : va_P g.1 vwCl [(h, .inr (2, [.ref q1, .null, .null, .null, .int 0])), (q1, .inl (g.2.2.1, 512, .inl (fun _ => 0))), (q2, .inl (g.2.2.1, 32, .inl (fun _ => 0)))] H := hP
  have hD : va_D A [(h, .inr (2, [.ref q1, .null, .null, .null, .int 0])), (q1, .inl (g.2.2.1, 512, .inl (fun _ => 0))), (q2, .inl (g.2.2.1, 32, .inl (fun _ => 0)))] := hD
  refine va_put (ci := 2) (v := .ref q2) hx hb hts iX2 tyX2 tyX2_ok nmX2 hown hK hP hD hS 0 rfl rfl 1 (by decide) (hts _ w_151) (fun _ h9 => h9) rfl (tyX2_ok 1 (by decide)) rfl rfl (Nat.le_of_ble_eq_true rfl) dX2_init_18 (fun H locs hP hD hS => ?_)
  have hP : va_P g.1 vwCl [(h, .inr (2, [.ref q1, .ref q2, .null, .null, .int 0])), (q1, .inl (g.2.2.1, 512, .inl (fun _ => 0))), (q2, .inl (g.2.2.1, 32, .inl (fun _ => 0)))] H := hP
  have hD : va_D A [(h, .inr (2, [.ref q1, .ref q2, .null, .null, .int 0])), (q1, .inl (g.2.2.1, 512, .inl (fun _ => 0))), (q2, .inl (g.2.2.1, 32, .inl (fun _ => 0)))] := hD
  refine lv_aload_n hx hb dX2_init_21 rfl (lv_at hl 0 rfl) ?_
  refine lv_bipush (v := 32) hx hb dX2_init_22 (by decide) ?_
  refine za_newa (atype := .int) (ty := .int) (N' := 32) (a0 := (32, .inl (fun _ => 0))) hx hb (hts _ w_140) rfl hK 1 rfl hP hD hS hA (fun _ => rfl) (by decide) (by decide) (by decide) (Nat.le_of_ble_eq_true rfl) (Nat.le_of_ble_eq_true rfl) dX2_init_24 (fun q3 H hP hD hS => ?_)
  have hP : va_P g.1 vwCl [(h, .inr (2, [.ref q1, .ref q2, .null, .null, .int 0])), (q1, .inl (g.2.2.1, 512, .inl (fun _ => 0))), (q2, .inl (g.2.2.1, 32, .inl (fun _ => 0))), (q3, .inl (g.2.2.1, 32, .inl (fun _ => 0)))] H := hP
  have hD : va_D A [(h, .inr (2, [.ref q1, .ref q2, .null, .null, .int 0])), (q1, .inl (g.2.2.1, 512, .inl (fun _ => 0))), (q2, .inl (g.2.2.1, 32, .inl (fun _ => 0))), (q3, .inl (g.2.2.1, 32, .inl (fun _ => 0)))] := hD
  refine va_put (ci := 2) (v := .ref q3) hx hb hts iX2 tyX2 tyX2_ok nmX2 hown hK hP hD hS 0 rfl rfl 2 (by decide) (hts _ w_152) (fun _ h9 => h9) rfl (tyX2_ok 2 (by decide)) rfl rfl (Nat.le_of_ble_eq_true rfl) dX2_init_26 (fun H locs hP hD hS => ?_)
  have hP : va_P g.1 vwCl [(h, .inr (2, [.ref q1, .ref q2, .ref q3, .null, .int 0])), (q1, .inl (g.2.2.1, 512, .inl (fun _ => 0))), (q2, .inl (g.2.2.1, 32, .inl (fun _ => 0))), (q3, .inl (g.2.2.1, 32, .inl (fun _ => 0)))] H := hP
  have hD : va_D A [(h, .inr (2, [.ref q1, .ref q2, .ref q3, .null, .int 0])), (q1, .inl (g.2.2.1, 512, .inl (fun _ => 0))), (q2, .inl (g.2.2.1, 32, .inl (fun _ => 0))), (q3, .inl (g.2.2.1, 32, .inl (fun _ => 0)))] := hD
  refine lv_aload_n hx hb dX2_init_29 rfl (lv_at hl 0 rfl) ?_
  refine lv_bipush (v := 32) hx hb dX2_init_30 (by decide) ?_
  refine za_newa (atype := .int) (ty := .int) (N' := 32) (a0 := (32, .inl (fun _ => 0))) hx hb (hts _ w_140) rfl hK 1 rfl hP hD hS hA (fun _ => rfl) (by decide) (by decide) (by decide) (Nat.le_of_ble_eq_true rfl) (Nat.le_of_ble_eq_true rfl) dX2_init_32 (fun q4 H hP hD hS => ?_)
  have hP : va_P g.1 vwCl [(h, .inr (2, [.ref q1, .ref q2, .ref q3, .null, .int 0])), (q1, .inl (g.2.2.1, 512, .inl (fun _ => 0))), (q2, .inl (g.2.2.1, 32, .inl (fun _ => 0))), (q3, .inl (g.2.2.1, 32, .inl (fun _ => 0))), (q4, .inl (g.2.2.1, 32, .inl (fun _ => 0)))] H := hP
  have hD : va_D A [(h, .inr (2, [.ref q1, .ref q2, .ref q3, .null, .int 0])), (q1, .inl (g.2.2.1, 512, .inl (fun _ => 0))), (q2, .inl (g.2.2.1, 32, .inl (fun _ => 0))), (q3, .inl (g.2.2.1, 32, .inl (fun _ => 0))), (q4, .inl (g.2.2.1, 32, .inl (fun _ => 0)))] := hD
  refine va_put (ci := 2) (v := .ref q4) hx hb hts iX2 tyX2 tyX2_ok nmX2 hown hK hP hD hS 0 rfl rfl 3 (by decide) (hts _ w_153) (fun _ h9 => h9) rfl (tyX2_ok 3 (by decide)) rfl rfl (Nat.le_of_ble_eq_true rfl) dX2_init_34 (fun H locs hP hD hS => ?_)
  have hP : va_P g.1 vwCl [(h, .inr (2, [.ref q1, .ref q2, .ref q3, .ref q4, .int 0])), (q1, .inl (g.2.2.1, 512, .inl (fun _ => 0))), (q2, .inl (g.2.2.1, 32, .inl (fun _ => 0))), (q3, .inl (g.2.2.1, 32, .inl (fun _ => 0))), (q4, .inl (g.2.2.1, 32, .inl (fun _ => 0)))] H := hP
  have hD : va_D A [(h, .inr (2, [.ref q1, .ref q2, .ref q3, .ref q4, .int 0])), (q1, .inl (g.2.2.1, 512, .inl (fun _ => 0))), (q2, .inl (g.2.2.1, 32, .inl (fun _ => 0))), (q3, .inl (g.2.2.1, 32, .inl (fun _ => 0))), (q4, .inl (g.2.2.1, 32, .inl (fun _ => 0)))] := hD
  refine lv_aload_n hx hb dX2_init_37 rfl (lv_at hl 0 rfl) ?_
  refine lv_iconst (v := 0) hx hb dX2_init_38 (by decide) ?_
  refine va_put (ci := 2) (v := .int 0) hx hb hts iX2 tyX2 tyX2_ok nmX2 hown hK hP hD hS 0 rfl rfl 4 (by decide) (hts _ w_154) (fun _ h9 => h9) rfl (tyX2_ok 4 (by decide)) rfl rfl (Nat.le_of_ble_eq_true rfl) dX2_init_39 (fun H locs hP hD hS => ?_)
  have hP : va_P g.1 vwCl [(h, .inr (2, [.ref q1, .ref q2, .ref q3, .ref q4, .int 0])), (q1, .inl (g.2.2.1, 512, .inl (fun _ => 0))), (q2, .inl (g.2.2.1, 32, .inl (fun _ => 0))), (q3, .inl (g.2.2.1, 32, .inl (fun _ => 0))), (q4, .inl (g.2.2.1, 32, .inl (fun _ => 0)))] H := hP
  have hD : va_D A [(h, .inr (2, [.ref q1, .ref q2, .ref q3, .ref q4, .int 0])), (q1, .inl (g.2.2.1, 512, .inl (fun _ => 0))), (q2, .inl (g.2.2.1, 32, .inl (fun _ => 0))), (q3, .inl (g.2.2.1, 32, .inl (fun _ => 0))), (q4, .inl (g.2.2.1, 32, .inl (fun _ => 0)))] := hD
  refine lv_aload_n hx hb dX2_init_42 rfl (lv_at hl 0 rfl) ?_
  refine va_get (ci := 2) (v := .ref q1) hx hb hts iX2 hown hK hP 0 rfl rfl 0 (by decide) (hts _ w_150) (fun _ h9 => h9) rfl dX2_init_43 ?_
  refine lv_iconst (v := (-1)) hx hb dX2_init_46 (by decide) ?_
  refine za_cv (wc := [(q1, .inl (g.2.2.1, 512, .inl (fun _ => 0)))]) (wr := [(h, .inr (2, [.ref q1, .ref q2, .ref q3, .ref q4, .int 0])), (q2, .inl (g.2.2.1, 32, .inl (fun _ => 0))), (q3, .inl (g.2.2.1, 32, .inl (fun _ => 0))), (q4, .inl (g.2.2.1, 32, .inl (fun _ => 0)))]) C hP hD hS [1] [0, 2, 3, 4] rfl rfl (by decide) (by decide) (za_runS C hP hD hS [1] rfl (by decide) rfl (kJ7_fill l g E q1 512 (fun _ => 0) (-1) (by decide)) w_147 mJ7_fill_53178 rfl hl.1 rfl (Nat.le_of_ble_eq_true rfl) dX2_init_47 ⟨Nat.le_of_ble_eq_true rfl, Nat.le_of_ble_eq_true rfl⟩ ⟨Nat.le_of_ble_eq_true rfl, Nat.le_of_ble_eq_true rfl⟩) (fun _ H locs _ hP hD hS => ?_)
  have hP : va_P g.1 vwCl [(h, .inr (2, [.ref q1, .ref q2, .ref q3, .ref q4, .int 0])), (q2, .inl (g.2.2.1, 32, .inl (fun _ => 0))), (q3, .inl (g.2.2.1, 32, .inl (fun _ => 0))), (q4, .inl (g.2.2.1, 32, .inl (fun _ => 0))), (q1, .inl (g.2.2.1, 512, .inl (fun k => if k < 512 then -1 else (fun _ => 0) k)))] H := hP
  have hD : va_D A [(h, .inr (2, [.ref q1, .ref q2, .ref q3, .ref q4, .int 0])), (q2, .inl (g.2.2.1, 32, .inl (fun _ => 0))), (q3, .inl (g.2.2.1, 32, .inl (fun _ => 0))), (q4, .inl (g.2.2.1, 32, .inl (fun _ => 0))), (q1, .inl (g.2.2.1, 512, .inl (fun k => if k < 512 then -1 else (fun _ => 0) k)))] := hD
  exact za_rv hQ hx hb hr hlocks hK hP hD hS (fun k => [q1, q2, q3, q4].getD k 0) trivial [0, 1, 2, 3, 4] rfl (by decide) rfl (Nat.le_of_ble_eq_true rfl) (Nat.le_of_ble_eq_true rfl) dX2_init_50
set_option maxHeartbeats 8000000 in
set_option maxRecDepth 100000 in
theorem kX7_init (l : Launch) (g : za_G) (E : za_E) (h : Nat) : za_Cv l g E yX7_init cX7_init 1 1 1 256 [.ref h] [(h, .inr (6, [.null, .int 0, .int 0, .int 0, .int 0, .int 0]))] (fun _ : Nat → Nat => True) (fun qs => [(h, .inr (6, [.ref (qs 0), .int 0, .int 0, .int 1, .int 0, .int 0])), (qs 0, .inl (g.2.1, 256, .inl (fun _ => 0)))]) := by
  refine za_begin (by decide) (Nat.le_of_ble_eq_true rfl) RX7 rfl ?_
  intro p e s m args below meth co A ls Q H locs C hQ hr hlocks hnm hS hP hD hl
  obtain ⟨hx, hb, hml, hown, hts, hK, hA, hE⟩ := id C
  have hl : lv_has ls 1 [(0, .ref h)] := hl
  refine lv_aload_n hx hb dX7_init_0 rfl (lv_at hl 0 rfl) ?_
  refine W.objInit hx hb hown (hts _ w_92) (hts _ w_85) (hts _ w_86) rfl (hl.1.trans hml.symm) rfl dX7_init_1 (by decide) (by show 2 * 0 + 0 + 12 ≤ 32; decide) ?_
  refine lv_aload_n hx hb dX7_init_4 rfl (lv_at hl 0 rfl) ?_
  refine lv_sipush (v := 256) hx hb dX7_init_5 (by decide) ?_
  refine za_newa (atype := .byte) (ty := .byte) (N' := 256) (a0 := (256, .inl (fun _ => 0))) hx hb (hts _ w_117) rfl hK 0 rfl hP hD hS hA (fun _ => rfl) (by decide) (by decide) (by decide) (Nat.le_of_ble_eq_true rfl) (Nat.le_of_ble_eq_true rfl) dX7_init_8 (fun q1 H hP hD hS => ?_)
  have hP : va_P g.1 vwCl [(h, .inr (6, [.null, .int 0, .int 0, .int 0, .int 0, .int 0])), (q1, .inl (g.2.1, 256, .inl (fun _ => 0)))] H := hP
  have hD : va_D A [(h, .inr (6, [.null, .int 0, .int 0, .int 0, .int 0, .int 0])), (q1, .inl (g.2.1, 256, .inl (fun _ => 0)))] := hD
  refine va_put (ci := 6) (v := .ref q1) hx hb hts iX7 tyX7 tyX7_ok nmX7 hown hK hP hD hS 0 rfl rfl 0 (by decide) (hts _ w_93) (fun _ h9 => h9) rfl (tyX7_ok 0 (by decide)) rfl rfl (Nat.le_of_ble_eq_true rfl) dX7_init_10 (fun H locs hP hD hS => ?_)
  have hP : va_P g.1 vwCl [(h, .inr (6, [.ref q1, .int 0, .int 0, .int 0, .int 0, .int 0])), (q1, .inl (g.2.1, 256, .inl (fun _ => 0)))] H := hP
  have hD : va_D A [(h, .inr (6, [.ref q1, .int 0, .int 0, .int 0, .int 0, .int 0])), (q1, .inl (g.2.1, 256, .inl (fun _ => 0)))] := hD
  refine lv_aload_n hx hb dX7_init_13 rfl (lv_at hl 0 rfl) ?_
  refine lv_iconst (v := 0) hx hb dX7_init_14 (by decide) ?_
  refine va_put (ci := 6) (v := .int 0) hx hb hts iX7 tyX7 tyX7_ok nmX7 hown hK hP hD hS 0 rfl rfl 1 (by decide) (hts _ w_94) (fun _ h9 => h9) rfl (tyX7_ok 1 (by decide)) rfl rfl (Nat.le_of_ble_eq_true rfl) dX7_init_15 (fun H locs hP hD hS => ?_)
  have hP : va_P g.1 vwCl [(h, .inr (6, [.ref q1, .int 0, .int 0, .int 0, .int 0, .int 0])), (q1, .inl (g.2.1, 256, .inl (fun _ => 0)))] H := hP
  have hD : va_D A [(h, .inr (6, [.ref q1, .int 0, .int 0, .int 0, .int 0, .int 0])), (q1, .inl (g.2.1, 256, .inl (fun _ => 0)))] := hD
  refine lv_aload_n hx hb dX7_init_18 rfl (lv_at hl 0 rfl) ?_
  refine lv_iconst (v := 0) hx hb dX7_init_19 (by decide) ?_
  refine va_put (ci := 6) (v := .int 0) hx hb hts iX7 tyX7 tyX7_ok nmX7 hown hK hP hD hS 0 rfl rfl 2 (by decide) (hts _ w_96) (fun _ h9 => h9) rfl (tyX7_ok 2 (by decide)) rfl rfl (Nat.le_of_ble_eq_true rfl) dX7_init_20 (fun H locs hP hD hS => ?_)
  have hP : va_P g.1 vwCl [(h, .inr (6, [.ref q1, .int 0, .int 0, .int 0, .int 0, .int 0])), (q1, .inl (g.2.1, 256, .inl (fun _ => 0)))] H := hP
  have hD : va_D A [(h, .inr (6, [.ref q1, .int 0, .int 0, .int 0, .int 0, .int 0])), (q1, .inl (g.2.1, 256, .inl (fun _ => 0)))] := hD
  refine lv_aload_n hx hb dX7_init_23 rfl (lv_at hl 0 rfl) ?_
  refine lv_iconst (v := 1) hx hb dX7_init_24 (by decide) ?_
  refine va_put (ci := 6) (v := .int 1) hx hb hts iX7 tyX7 tyX7_ok nmX7 hown hK hP hD hS 0 rfl rfl 3 (by decide) (hts _ w_98) (fun _ h9 => h9) rfl (tyX7_ok 3 (by decide)) rfl rfl (Nat.le_of_ble_eq_true rfl) dX7_init_25 (fun H locs hP hD hS => ?_)
  have hP : va_P g.1 vwCl [(h, .inr (6, [.ref q1, .int 0, .int 0, .int 1, .int 0, .int 0])), (q1, .inl (g.2.1, 256, .inl (fun _ => 0)))] H := hP
  have hD : va_D A [(h, .inr (6, [.ref q1, .int 0, .int 0, .int 1, .int 0, .int 0])), (q1, .inl (g.2.1, 256, .inl (fun _ => 0)))] := hD
  refine lv_aload_n hx hb dX7_init_28 rfl (lv_at hl 0 rfl) ?_
  refine lv_iconst (v := 0) hx hb dX7_init_29 (by decide) ?_
  refine va_put (ci := 6) (v := .int 0) hx hb hts iX7 tyX7 tyX7_ok nmX7 hown hK hP hD hS 0 rfl rfl 4 (by decide) (hts _ w_100) (fun _ h9 => h9) rfl (tyX7_ok 4 (by decide)) rfl rfl (Nat.le_of_ble_eq_true rfl) dX7_init_30 (fun H locs hP hD hS => ?_)
  have hP : va_P g.1 vwCl [(h, .inr (6, [.ref q1, .int 0, .int 0, .int 1, .int 0, .int 0])), (q1, .inl (g.2.1, 256, .inl (fun _ => 0)))] H := hP
  have hD : va_D A [(h, .inr (6, [.ref q1, .int 0, .int 0, .int 1, .int 0, .int 0])), (q1, .inl (g.2.1, 256, .inl (fun _ => 0)))] := hD
  refine lv_aload_n hx hb dX7_init_33 rfl (lv_at hl 0 rfl) ?_
  refine lv_iconst (v := 0) hx hb dX7_init_34 (by decide) ?_
  refine va_put (ci := 6) (v := .int 0) hx hb hts iX7 tyX7 tyX7_ok nmX7 hown hK hP hD hS 0 rfl rfl 5 (by decide) (hts _ w_102) (fun _ h9 => h9) rfl (tyX7_ok 5 (by decide)) rfl rfl (Nat.le_of_ble_eq_true rfl) dX7_init_35 (fun H locs hP hD hS => ?_)
  have hP : va_P g.1 vwCl [(h, .inr (6, [.ref q1, .int 0, .int 0, .int 1, .int 0, .int 0])), (q1, .inl (g.2.1, 256, .inl (fun _ => 0)))] H := hP
  have hD : va_D A [(h, .inr (6, [.ref q1, .int 0, .int 0, .int 1, .int 0, .int 0])), (q1, .inl (g.2.1, 256, .inl (fun _ => 0)))] := hD
  exact za_rv hQ hx hb hr hlocks hK hP hD hS (fun k => [q1].getD k 0) trivial [0, 1] rfl (by decide) rfl (Nat.le_of_ble_eq_true rfl) (Nat.le_of_ble_eq_true rfl) dX7_init_38
set_option maxHeartbeats 8000000 in
set_option maxRecDepth 100000 in
theorem kX8_init (l : Launch) (g : za_G) (E : za_E) (h : Nat) : za_Cv l g E yX8_init cX8_init 1 2 8 1575 [.ref h] [(h, .inr (7, [.null, .int 0, .null, .null]))] (fun _ : Nat → Nat => True) (fun qs => [(h, .inr (7, [.ref (qs 0), .int 0, .ref (qs 1), .ref (qs 3)])), (qs 0, .inl (g.2.2.1, 704, .inl (fun _ => 0))), (qs 1, .inr (0, [.ref (qs 2), .int 0])), (qs 2, .inl (g.2.1, 256, .inl (fun _ => 0))), (qs 3, .inr (2, [.ref (qs 4), .ref (qs 5), .ref (qs 6), .ref (qs 7), .int 0])), (qs 5, .inl (g.2.2.1, 32, .inl (fun _ => 0))), (qs 6, .inl (g.2.2.1, 32, .inl (fun _ => 0))), (qs 7, .inl (g.2.2.1, 32, .inl (fun _ => 0))), (qs 4, .inl (g.2.2.1, 512, .inl (fun k => if k < 512 then -1 else (fun _ => 0) k)))]) := by
  refine za_begin (by decide) (Nat.le_of_ble_eq_true rfl) RX8 rfl ?_
  intro p e s m args below meth co A ls Q H locs C hQ hr hlocks hnm hS hP hD hl
  obtain ⟨hx, hb, hml, hown, hts, hK, hA, hE⟩ := id C
  have hl : lv_has ls 1 [(0, .ref h)] := hl
  refine lv_aload_n hx hb dX8_init_0 rfl (lv_at hl 0 rfl) ?_
  refine W.objInit hx hb hown (hts _ w_123) (hts _ w_85) (hts _ w_86) rfl (hl.1.trans hml.symm) rfl dX8_init_1 (by decide) (by show 2 * 0 + 0 + 12 ≤ 64; decide) ?_
  refine lv_aload_n hx hb dX8_init_4 rfl (lv_at hl 0 rfl) ?_
  refine lv_sipush (v := 704) hx hb dX8_init_5 (by decide) ?_
  refine za_newa (atype := .int) (ty := .int) (N' := 704) (a0 := (704, .inl (fun _ => 0))) hx hb (hts _ w_140) rfl hK 1 rfl hP hD hS hA (fun _ => rfl) (by decide) (by decide) (by decide) (Nat.le_of_ble_eq_true rfl) (Nat.le_of_ble_eq_true rfl) dX8_init_8 (fun q1 H hP hD hS => ?_)
  have hP : va_P g.1 vwCl [(h, .inr (7, [.null, .int 0, .null, .null])), (q1, .inl (g.2.2.1, 704, .inl (fun _ => 0)))] H := hP
  have hD : va_D A [(h, .inr (7, [.null, .int 0, .null, .null])), (q1, .inl (g.2.2.1, 704, .inl (fun _ => 0)))] := hD
  refine va_put (ci := 7) (v := .ref q1) hx hb hts iX8 tyX8 tyX8_ok nmX8 hown hK hP hD hS 0 rfl rfl 0 (by decide) (hts _ w_167) (fun _ h9 => h9) rfl (tyX8_ok 0 (by decide)) rfl rfl (Nat.le_of_ble_eq_true rfl) dX8_init_10 (fun H locs hP hD hS => ?_)
  have hP : va_P g.1 vwCl [(h, .inr (7, [.ref q1, .int 0, .null, .null])), (q1, .inl (g.2.2.1, 704, .inl (fun _ => 0)))] H := hP
  have hD : va_D A [(h, .inr (7, [.ref q1, .int 0, .null, .null])), (q1, .inl (g.2.2.1, 704, .inl (fun _ => 0)))] := hD
  refine lv_aload_n hx hb dX8_init_13 rfl (lv_at hl 0 rfl) ?_
  refine lv_iconst (v := 0) hx hb dX8_init_14 (by decide) ?_
  refine va_put (ci := 7) (v := .int 0) hx hb hts iX8 tyX8 tyX8_ok nmX8 hown hK hP hD hS 0 rfl rfl 1 (by decide) (hts _ w_168) (fun _ h9 => h9) rfl (tyX8_ok 1 (by decide)) rfl rfl (Nat.le_of_ble_eq_true rfl) dX8_init_15 (fun H locs hP hD hS => ?_)
  have hP : va_P g.1 vwCl [(h, .inr (7, [.ref q1, .int 0, .null, .null])), (q1, .inl (g.2.2.1, 704, .inl (fun _ => 0)))] H := hP
  have hD : va_D A [(h, .inr (7, [.ref q1, .int 0, .null, .null])), (q1, .inl (g.2.2.1, 704, .inl (fun _ => 0)))] := hD
  refine lv_aload_n hx hb dX8_init_18 rfl (lv_at hl 0 rfl) ?_
  refine va_new (ci := 0) (fs := [.null, .int 0]) hx hb hts iX0 tyX0 tyX0_ok hown (hts _ w_124) (hts _ w_125) (hts _ w_60) hK hP hD hS hA rfl (fun j hj => by rcases j with _ | _ | j <;> first | rfl | omega) (Nat.le_of_ble_eq_true rfl) (Nat.le_of_ble_eq_true rfl) dX8_init_19 (fun q2 H hP hD hS => ?_)
  have hP : va_P g.1 vwCl [(h, .inr (7, [.ref q1, .int 0, .null, .null])), (q1, .inl (g.2.2.1, 704, .inl (fun _ => 0))), (q2, .inr (0, [.null, .int 0]))] H := hP
  have hD : va_D A [(h, .inr (7, [.ref q1, .int 0, .null, .null])), (q1, .inl (g.2.2.1, 704, .inl (fun _ => 0))), (q2, .inr (0, [.null, .int 0]))] := hD
  refine lv_dup hx hb dX8_init_22 rfl ?_
  refine za_cv (wc := [(q2, .inr (0, [.null, .int 0]))]) (wr := [(h, .inr (7, [.ref q1, .int 0, .null, .null])), (q1, .inl (g.2.2.1, 704, .inl (fun _ => 0)))]) C hP hD hS [2] [0, 1] rfl rfl (by decide) (by decide) (za_runIN C hP hD hS [2] rfl (by decide) rfl (kX0_init l g E q2) zn_X8_21 mX0_init rfl hl.1 rfl (Nat.le_of_ble_eq_true rfl) dX8_init_23 ⟨Nat.le_of_ble_eq_true rfl, Nat.le_of_ble_eq_true rfl⟩ ⟨Nat.le_of_ble_eq_true rfl, Nat.le_of_ble_eq_true rfl⟩) (fun u23 H locs _ hP hD hS => ?_)
  have hP : va_P g.1 vwCl [(h, .inr (7, [.ref q1, .int 0, .null, .null])), (q1, .inl (g.2.2.1, 704, .inl (fun _ => 0))), (q2, .inr (0, [.ref (u23 0), .int 0])), (u23 0, .inl (g.2.1, 256, .inl (fun _ => 0)))] H := hP
  have hD : va_D A [(h, .inr (7, [.ref q1, .int 0, .null, .null])), (q1, .inl (g.2.2.1, 704, .inl (fun _ => 0))), (q2, .inr (0, [.ref (u23 0), .int 0])), (u23 0, .inl (g.2.1, 256, .inl (fun _ => 0)))] := hD
  refine va_putF (ci := 7) (v := .ref q2) hx hb hts iX8 tyX8 tyX8_ok nmX8 hown hK hP hD hS 0 rfl rfl 2 (by decide) (hts _ w_171) (fun _ h9 => h9) rfl hnm rfl (tyX8_ok 2 (by decide)) rfl rfl (Nat.le_of_ble_eq_true rfl) dX8_init_26 (fun H locs hP hD hS => ?_)
  have hP : va_P g.1 vwCl [(h, .inr (7, [.ref q1, .int 0, .ref q2, .null])), (q1, .inl (g.2.2.1, 704, .inl (fun _ => 0))), (q2, .inr (0, [.ref (u23 0), .int 0])), (u23 0, .inl (g.2.1, 256, .inl (fun _ => 0)))] H := hP
  have hD : va_D A [(h, .inr (7, [.ref q1, .int 0, .ref q2, .null])), (q1, .inl (g.2.2.1, 704, .inl (fun _ => 0))), (q2, .inr (0, [.ref (u23 0), .int 0])), (u23 0, .inl (g.2.1, 256, .inl (fun _ => 0)))] := hD
  refine lv_aload_n hx hb dX8_init_29 rfl (lv_at hl 0 rfl) ?_
  refine va_new (ci := 2) (fs := [.null, .null, .null, .null, .int 0]) hx hb hts iX2 tyX2 tyX2_ok hown (hts _ w_141) (hts _ w_142) (hts _ w_61) hK hP hD hS hA rfl (fun j hj => by rcases j with _ | _ | _ | _ | _ | j <;> first | rfl | omega) (Nat.le_of_ble_eq_true rfl) (Nat.le_of_ble_eq_true rfl) dX8_init_30 (fun q3 H hP hD hS => ?_)
  have hP : va_P g.1 vwCl [(h, .inr (7, [.ref q1, .int 0, .ref q2, .null])), (q1, .inl (g.2.2.1, 704, .inl (fun _ => 0))), (q2, .inr (0, [.ref (u23 0), .int 0])), (u23 0, .inl (g.2.1, 256, .inl (fun _ => 0))), (q3, .inr (2, [.null, .null, .null, .null, .int 0]))] H := hP
  have hD : va_D A [(h, .inr (7, [.ref q1, .int 0, .ref q2, .null])), (q1, .inl (g.2.2.1, 704, .inl (fun _ => 0))), (q2, .inr (0, [.ref (u23 0), .int 0])), (u23 0, .inl (g.2.1, 256, .inl (fun _ => 0))), (q3, .inr (2, [.null, .null, .null, .null, .int 0]))] := hD
  refine lv_dup hx hb dX8_init_33 rfl ?_
  refine za_cv (wc := [(q3, .inr (2, [.null, .null, .null, .null, .int 0]))]) (wr := [(h, .inr (7, [.ref q1, .int 0, .ref q2, .null])), (q1, .inl (g.2.2.1, 704, .inl (fun _ => 0))), (q2, .inr (0, [.ref (u23 0), .int 0])), (u23 0, .inl (g.2.1, 256, .inl (fun _ => 0)))]) C hP hD hS [4] [0, 1, 2, 3] rfl rfl (by decide) (by decide) (za_runI C hP hD hS [4] rfl (by decide) rfl (kX2_init l g E q3) w_143 mX2_init rfl hl.1 rfl (Nat.le_of_ble_eq_true rfl) dX8_init_34 ⟨Nat.le_of_ble_eq_true rfl, Nat.le_of_ble_eq_true rfl⟩ ⟨Nat.le_of_ble_eq_true rfl, Nat.le_of_ble_eq_true rfl⟩) (fun u34 H locs _ hP hD hS => ?_)
  have hP : va_P g.1 vwCl [(h, .inr (7, [.ref q1, .int 0, .ref q2, .null])), (q1, .inl (g.2.2.1, 704, .inl (fun _ => 0))), (q2, .inr (0, [.ref (u23 0), .int 0])), (u23 0, .inl (g.2.1, 256, .inl (fun _ => 0))), (q3, .inr (2, [.ref (u34 0), .ref (u34 1), .ref (u34 2), .ref (u34 3), .int 0])), (u34 1, .inl (g.2.2.1, 32, .inl (fun _ => 0))), (u34 2, .inl (g.2.2.1, 32, .inl (fun _ => 0))), (u34 3, .inl (g.2.2.1, 32, .inl (fun _ => 0))), (u34 0, .inl (g.2.2.1, 512, .inl (fun k => if k < 512 then -1 else (fun _ => 0) k)))] H := hP
  have hD : va_D A [(h, .inr (7, [.ref q1, .int 0, .ref q2, .null])), (q1, .inl (g.2.2.1, 704, .inl (fun _ => 0))), (q2, .inr (0, [.ref (u23 0), .int 0])), (u23 0, .inl (g.2.1, 256, .inl (fun _ => 0))), (q3, .inr (2, [.ref (u34 0), .ref (u34 1), .ref (u34 2), .ref (u34 3), .int 0])), (u34 1, .inl (g.2.2.1, 32, .inl (fun _ => 0))), (u34 2, .inl (g.2.2.1, 32, .inl (fun _ => 0))), (u34 3, .inl (g.2.2.1, 32, .inl (fun _ => 0))), (u34 0, .inl (g.2.2.1, 512, .inl (fun k => if k < 512 then -1 else (fun _ => 0) k)))] := hD
  refine va_putF (ci := 7) (v := .ref q3) hx hb hts iX8 tyX8 tyX8_ok nmX8 hown hK hP hD hS 0 rfl rfl 3 (by decide) (hts _ w_174) (fun _ h9 => h9) rfl hnm rfl (tyX8_ok 3 (by decide)) rfl rfl (Nat.le_of_ble_eq_true rfl) dX8_init_37 (fun H locs hP hD hS => ?_)
  have hP : va_P g.1 vwCl [(h, .inr (7, [.ref q1, .int 0, .ref q2, .ref q3])), (q1, .inl (g.2.2.1, 704, .inl (fun _ => 0))), (q2, .inr (0, [.ref (u23 0), .int 0])), (u23 0, .inl (g.2.1, 256, .inl (fun _ => 0))), (q3, .inr (2, [.ref (u34 0), .ref (u34 1), .ref (u34 2), .ref (u34 3), .int 0])), (u34 1, .inl (g.2.2.1, 32, .inl (fun _ => 0))), (u34 2, .inl (g.2.2.1, 32, .inl (fun _ => 0))), (u34 3, .inl (g.2.2.1, 32, .inl (fun _ => 0))), (u34 0, .inl (g.2.2.1, 512, .inl (fun k => if k < 512 then -1 else (fun _ => 0) k)))] H := hP
  have hD : va_D A [(h, .inr (7, [.ref q1, .int 0, .ref q2, .ref q3])), (q1, .inl (g.2.2.1, 704, .inl (fun _ => 0))), (q2, .inr (0, [.ref (u23 0), .int 0])), (u23 0, .inl (g.2.1, 256, .inl (fun _ => 0))), (q3, .inr (2, [.ref (u34 0), .ref (u34 1), .ref (u34 2), .ref (u34 3), .int 0])), (u34 1, .inl (g.2.2.1, 32, .inl (fun _ => 0))), (u34 2, .inl (g.2.2.1, 32, .inl (fun _ => 0))), (u34 3, .inl (g.2.2.1, 32, .inl (fun _ => 0))), (u34 0, .inl (g.2.2.1, 512, .inl (fun k => if k < 512 then -1 else (fun _ => 0) k)))] := hD
  exact za_rv hQ hx hb hr hlocks hK hP hD hS (fun k => [q1, q2, u23 0, q3, u34 0, u34 1, u34 2, u34 3].getD k 0) trivial [0, 1, 2, 3, 4, 5, 6, 7, 8] rfl (by decide) rfl (Nat.le_of_ble_eq_true rfl) (Nat.le_of_ble_eq_true rfl) dX8_init_40
set_option maxHeartbeats 8000000 in
set_option maxRecDepth 100000 in
theorem kX3_init (l : Launch) (g : za_G) (E : za_E) (h : Nat) (t : Nat) (b : Nat) : za_Cv l g E yX3_init cX3_init 3 1 0 0 [.ref h, .ref t, .ref b] [(h, .inr (3, [.null, .null]))] (fun _ : Nat → Nat => True) (fun qs => [(h, .inr (3, [.ref t, .ref b]))]) := by
  refine za_begin (by decide) (Nat.le_of_ble_eq_true rfl) RX3 rfl ?_
  intro p e s m args below meth co A ls Q H locs C hQ hr hlocks hnm hS hP hD hl
  obtain ⟨hx, hb, hml, hown, hts, hK, hA, hE⟩ := id C
  have hl : lv_has ls 3 [(0, .ref h), (1, .ref t), (2, .ref b)] := hl
  refine lv_aload_n hx hb dX3_init_0 rfl (lv_at hl 0 rfl) ?_
  refine W.objInit hx hb hown (hts _ w_197) (hts _ w_85) (hts _ w_86) rfl (hl.1.trans hml.symm) rfl dX3_init_1 (by decide) (by show 2 * 0 + 0 + 12 ≤ 32; decide) ?_
  refine lv_aload_n hx hb dX3_init_4 rfl (lv_at hl 0 rfl) ?_
  refine lv_aload_n hx hb dX3_init_5 rfl (lv_at hl 1 rfl) ?_
  refine va_putF (ci := 3) (v := .ref t) hx hb hts iX3 tyX3 tyX3_ok nmX3 hown hK hP hD hS 0 rfl rfl 0 (by decide) (hts _ w_198) (fun _ h9 => h9) rfl hnm rfl (tyX3_ok 0 (by decide)) rfl rfl (Nat.le_of_ble_eq_true rfl) dX3_init_6 (fun H locs hP hD hS => ?_)
  have hP : va_P g.1 vwCl [(h, .inr (3, [.ref t, .null]))] H := hP
  have hD : va_D A [(h, .inr (3, [.ref t, .null]))] := hD
  refine lv_aload_n hx hb dX3_init_9 rfl (lv_at hl 0 rfl) ?_
  refine lv_aload_n hx hb dX3_init_10 rfl (lv_at hl 2 rfl) ?_
  refine va_putF (ci := 3) (v := .ref b) hx hb hts iX3 tyX3 tyX3_ok nmX3 hown hK hP hD hS 0 rfl rfl 1 (by decide) (hts _ w_199) (fun _ h9 => h9) rfl hnm rfl (tyX3_ok 1 (by decide)) rfl rfl (Nat.le_of_ble_eq_true rfl) dX3_init_11 (fun H locs hP hD hS => ?_)
  have hP : va_P g.1 vwCl [(h, .inr (3, [.ref t, .ref b]))] H := hP
  have hD : va_D A [(h, .inr (3, [.ref t, .ref b]))] := hD
  exact za_rv hQ hx hb hr hlocks hK hP hD hS (fun k => [0].getD k 0) trivial [0] rfl (by decide) rfl (Nat.le_of_ble_eq_true rfl) (Nat.le_of_ble_eq_true rfl) dX3_init_14
set_option maxHeartbeats 8000000 in
set_option maxRecDepth 100000 in
theorem kX4_init (l : Launch) (g : za_G) (E : za_E) (h : Nat) (t : Nat) (b : Nat) : za_Cv l g E yX4_init cX4_init 3 1 0 0 [.ref h, .ref t, .ref b] [(h, .inr (4, [.null, .null, .int 0]))] (fun _ : Nat → Nat => True) (fun qs => [(h, .inr (4, [.ref t, .ref b, .int 0]))]) := by
  refine za_begin (by decide) (Nat.le_of_ble_eq_true rfl) RX4 rfl ?_
  intro p e s m args below meth co A ls Q H locs C hQ hr hlocks hnm hS hP hD hl
  obtain ⟨hx, hb, hml, hown, hts, hK, hA, hE⟩ := id C
  have hl : lv_has ls 3 [(0, .ref h), (1, .ref t), (2, .ref b)] := hl
  refine lv_aload_n hx hb dX4_init_0 rfl (lv_at hl 0 rfl) ?_
  refine W.objInit hx hb hown (hts _ w_210) (hts _ w_85) (hts _ w_86) rfl (hl.1.trans hml.symm) rfl dX4_init_1 (by decide) (by show 2 * 0 + 0 + 12 ≤ 32; decide) ?_
  refine lv_aload_n hx hb dX4_init_4 rfl (lv_at hl 0 rfl) ?_
  refine lv_iconst (v := 0) hx hb dX4_init_5 (by decide) ?_
  refine va_put (ci := 4) (v := .int 0) hx hb hts iX4 tyX4 tyX4_ok nmX4 hown hK hP hD hS 0 rfl rfl 2 (by decide) (hts _ w_213) (fun _ h9 => h9) rfl (tyX4_ok 2 (by decide)) rfl rfl (Nat.le_of_ble_eq_true rfl) dX4_init_6 (fun H locs hP hD hS => ?_)
  have hP : va_P g.1 vwCl [(h, .inr (4, [.null, .null, .int 0]))] H := hP
  have hD : va_D A [(h, .inr (4, [.null, .null, .int 0]))] := hD
  refine lv_aload_n hx hb dX4_init_9 rfl (lv_at hl 0 rfl) ?_
  refine lv_aload_n hx hb dX4_init_10 rfl (lv_at hl 1 rfl) ?_
  refine va_putF (ci := 4) (v := .ref t) hx hb hts iX4 tyX4 tyX4_ok nmX4 hown hK hP hD hS 0 rfl rfl 0 (by decide) (hts _ w_211) (fun _ h9 => h9) rfl hnm rfl (tyX4_ok 0 (by decide)) rfl rfl (Nat.le_of_ble_eq_true rfl) dX4_init_11 (fun H locs hP hD hS => ?_)
  have hP : va_P g.1 vwCl [(h, .inr (4, [.ref t, .null, .int 0]))] H := hP
  have hD : va_D A [(h, .inr (4, [.ref t, .null, .int 0]))] := hD
  refine lv_aload_n hx hb dX4_init_14 rfl (lv_at hl 0 rfl) ?_
  refine lv_aload_n hx hb dX4_init_15 rfl (lv_at hl 2 rfl) ?_
  refine va_putF (ci := 4) (v := .ref b) hx hb hts iX4 tyX4 tyX4_ok nmX4 hown hK hP hD hS 0 rfl rfl 1 (by decide) (hts _ w_212) (fun _ h9 => h9) rfl hnm rfl (tyX4_ok 1 (by decide)) rfl rfl (Nat.le_of_ble_eq_true rfl) dX4_init_16 (fun H locs hP hD hS => ?_)
  have hP : va_P g.1 vwCl [(h, .inr (4, [.ref t, .ref b, .int 0]))] H := hP
  have hD : va_D A [(h, .inr (4, [.ref t, .ref b, .int 0]))] := hD
  exact za_rv hQ hx hb hr hlocks hK hP hD hS (fun k => [0].getD k 0) trivial [0] rfl (by decide) rfl (Nat.le_of_ble_eq_true rfl) (Nat.le_of_ble_eq_true rfl) dX4_init_19
set_option maxHeartbeats 8000000 in
set_option maxRecDepth 100000 in
theorem kX1_init (l : Launch) (g : za_G) (E : za_E) (h : Nat) (t : Nat) : za_Cv l g E yX1_init cX1_init 2 1 1 16 [.ref h, .ref t] [(h, .inr (1, [.null, .null, .int 0]))] (fun _ : Nat → Nat => True) (fun qs => [(h, .inr (1, [.ref t, .ref (qs 0), .int 0])), (qs 0, .inl (g.2.2.2.1, 16, .inr (.inl (fun _ => 0))))]) := by
  refine za_begin (by decide) (Nat.le_of_ble_eq_true rfl) RX1 rfl ?_
  intro p e s m args below meth co A ls Q H locs C hQ hr hlocks hnm hS hP hD hl
  obtain ⟨hx, hb, hml, hown, hts, hK, hA, hE⟩ := id C
  have hl : lv_has ls 2 [(0, .ref h), (1, .ref t)] := hl
  refine lv_aload_n hx hb dX1_init_0 rfl (lv_at hl 0 rfl) ?_
  refine W.objInit hx hb hown (hts _ w_254) (hts _ w_85) (hts _ w_86) rfl (hl.1.trans hml.symm) rfl dX1_init_1 (by decide) (by show 2 * 0 + 0 + 12 ≤ 32; decide) ?_
  refine lv_aload_n hx hb dX1_init_4 rfl (lv_at hl 0 rfl) ?_
  refine lv_bipush (v := 16) hx hb dX1_init_5 (by decide) ?_
  refine za_newa (atype := .long) (ty := .long) (N' := 16) (a0 := (16, .inr (.inl (fun _ => 0)))) hx hb (hts _ w_265) rfl hK 2 rfl hP hD hS hA (fun _ => rfl) (by decide) (by decide) (by decide) (Nat.le_of_ble_eq_true rfl) (Nat.le_of_ble_eq_true rfl) dX1_init_7 (fun q1 H hP hD hS => ?_)
  have hP : va_P g.1 vwCl [(h, .inr (1, [.null, .null, .int 0])), (q1, .inl (g.2.2.2.1, 16, .inr (.inl (fun _ => 0))))] H := hP
  have hD : va_D A [(h, .inr (1, [.null, .null, .int 0])), (q1, .inl (g.2.2.2.1, 16, .inr (.inl (fun _ => 0))))] := hD
  refine va_putF (ci := 1) (v := .ref q1) hx hb hts iX1 tyX1 tyX1_ok nmX1 hown hK hP hD hS 0 rfl rfl 1 (by decide) (hts _ w_256) (fun _ h9 => h9) rfl hnm rfl (tyX1_ok 1 (by decide)) rfl rfl (Nat.le_of_ble_eq_true rfl) dX1_init_9 (fun H locs hP hD hS => ?_)
  have hP : va_P g.1 vwCl [(h, .inr (1, [.null, .ref q1, .int 0])), (q1, .inl (g.2.2.2.1, 16, .inr (.inl (fun _ => 0))))] H := hP
  have hD : va_D A [(h, .inr (1, [.null, .ref q1, .int 0])), (q1, .inl (g.2.2.2.1, 16, .inr (.inl (fun _ => 0))))] := hD
  refine lv_aload_n hx hb dX1_init_12 rfl (lv_at hl 0 rfl) ?_
  refine lv_iconst (v := 0) hx hb dX1_init_13 (by decide) ?_
  refine va_put (ci := 1) (v := .int 0) hx hb hts iX1 tyX1 tyX1_ok nmX1 hown hK hP hD hS 0 rfl rfl 2 (by decide) (hts _ w_257) (fun _ h9 => h9) rfl (tyX1_ok 2 (by decide)) rfl rfl (Nat.le_of_ble_eq_true rfl) dX1_init_14 (fun H locs hP hD hS => ?_)
  have hP : va_P g.1 vwCl [(h, .inr (1, [.null, .ref q1, .int 0])), (q1, .inl (g.2.2.2.1, 16, .inr (.inl (fun _ => 0))))] H := hP
  have hD : va_D A [(h, .inr (1, [.null, .ref q1, .int 0])), (q1, .inl (g.2.2.2.1, 16, .inr (.inl (fun _ => 0))))] := hD
  refine lv_aload_n hx hb dX1_init_17 rfl (lv_at hl 0 rfl) ?_
  refine lv_aload_n hx hb dX1_init_18 rfl (lv_at hl 1 rfl) ?_
  refine va_putF (ci := 1) (v := .ref t) hx hb hts iX1 tyX1 tyX1_ok nmX1 hown hK hP hD hS 0 rfl rfl 0 (by decide) (hts _ w_255) (fun _ h9 => h9) rfl hnm rfl (tyX1_ok 0 (by decide)) rfl rfl (Nat.le_of_ble_eq_true rfl) dX1_init_19 (fun H locs hP hD hS => ?_)
  have hP : va_P g.1 vwCl [(h, .inr (1, [.ref t, .ref q1, .int 0])), (q1, .inl (g.2.2.2.1, 16, .inr (.inl (fun _ => 0))))] H := hP
  have hD : va_D A [(h, .inr (1, [.ref t, .ref q1, .int 0])), (q1, .inl (g.2.2.2.1, 16, .inr (.inl (fun _ => 0))))] := hD
  exact za_rv hQ hx hb hr hlocks hK hP hD hS (fun k => [q1].getD k 0) trivial [0, 1] rfl (by decide) rfl (Nat.le_of_ble_eq_true rfl) (Nat.le_of_ble_eq_true rfl) dX1_init_22
set_option maxHeartbeats 8000000 in
set_option maxRecDepth 100000 in
theorem kX5_init (l : Launch) (g : za_G) (E : za_E) (h : Nat) (t : Nat) (t2 : Nat) (b : Nat) (f0 f1 f3 : Value) : za_Cv l g E yX5_init cX5_init 3 2 2 5 [.ref h, .ref t, .ref t2] [(h, .inr (5, [.null, .null, .null, .null, .int 0, .int 0, .int 0, .int 0, .int 0])), (t2, .inr (7, [f0, f1, .ref b, f3]))] (fun _ : Nat → Nat => True) (fun qs => [(h, .inr (5, [.ref t, .ref t2, .ref (qs 0), .ref (qs 1), .int 0, .int 1, .int 1, .int 0, .int 0])), (t2, .inr (7, [f0, f1, .ref b, f3])), (qs 0, .inr (3, [.ref t, .ref b])), (qs 1, .inr (4, [.ref t, .ref b, .int 0]))]) := by
  refine za_begin (by decide) (Nat.le_of_ble_eq_true rfl) RX5 rfl ?_
  intro p e s m args below meth co A ls Q H locs C hQ hr hlocks hnm hS hP hD hl
  obtain ⟨hx, hb, hml, hown, hts, hK, hA, hE⟩ := id C
  have hl : lv_has ls 3 [(0, .ref h), (1, .ref t), (2, .ref t2)] := hl
  refine lv_aload_n hx hb dX5_init_0 rfl (lv_at hl 0 rfl) ?_
  refine W.objInit hx hb hown (hts _ w_191) (hts _ w_85) (hts _ w_86) rfl (hl.1.trans hml.symm) rfl dX5_init_1 (by decide) (by show 2 * 0 + 0 + 12 ≤ 64; decide) ?_
  refine lv_aload_n hx hb dX5_init_4 rfl (lv_at hl 0 rfl) ?_
  refine lv_iconst (v := 0) hx hb dX5_init_5 (by decide) ?_
  refine va_put (ci := 5) (v := .int 0) hx hb hts iX5 tyX5 tyX5_ok nmX5 hown hK hP hD hS 0 rfl rfl 4 (by decide) (hts _ w_225) (fun _ h9 => h9) rfl (tyX5_ok 4 (by decide)) rfl rfl (Nat.le_of_ble_eq_true rfl) dX5_init_6 (fun H locs hP hD hS => ?_)
  have hP : va_P g.1 vwCl [(h, .inr (5, [.null, .null, .null, .null, .int 0, .int 0, .int 0, .int 0, .int 0])), (t2, .inr (7, [f0, f1, .ref b, f3]))] H := hP
  have hD : va_D A [(h, .inr (5, [.null, .null, .null, .null, .int 0, .int 0, .int 0, .int 0, .int 0])), (t2, .inr (7, [f0, f1, .ref b, f3]))] := hD
  refine lv_aload_n hx hb dX5_init_9 rfl (lv_at hl 0 rfl) ?_
  refine lv_iconst (v := 1) hx hb dX5_init_10 (by decide) ?_
  refine va_put (ci := 5) (v := .int 1) hx hb hts iX5 tyX5 tyX5_ok nmX5 hown hK hP hD hS 0 rfl rfl 5 (by decide) (hts _ w_226) (fun _ h9 => h9) rfl (tyX5_ok 5 (by decide)) rfl rfl (Nat.le_of_ble_eq_true rfl) dX5_init_11 (fun H locs hP hD hS => ?_)
  have hP : va_P g.1 vwCl [(h, .inr (5, [.null, .null, .null, .null, .int 0, .int 1, .int 0, .int 0, .int 0])), (t2, .inr (7, [f0, f1, .ref b, f3]))] H := hP
  have hD : va_D A [(h, .inr (5, [.null, .null, .null, .null, .int 0, .int 1, .int 0, .int 0, .int 0])), (t2, .inr (7, [f0, f1, .ref b, f3]))] := hD
  refine lv_aload_n hx hb dX5_init_14 rfl (lv_at hl 0 rfl) ?_
  refine lv_iconst (v := 1) hx hb dX5_init_15 (by decide) ?_
  refine va_put (ci := 5) (v := .int 1) hx hb hts iX5 tyX5 tyX5_ok nmX5 hown hK hP hD hS 0 rfl rfl 6 (by decide) (hts _ w_227) (fun _ h9 => h9) rfl (tyX5_ok 6 (by decide)) rfl rfl (Nat.le_of_ble_eq_true rfl) dX5_init_16 (fun H locs hP hD hS => ?_)
  have hP : va_P g.1 vwCl [(h, .inr (5, [.null, .null, .null, .null, .int 0, .int 1, .int 1, .int 0, .int 0])), (t2, .inr (7, [f0, f1, .ref b, f3]))] H := hP
  have hD : va_D A [(h, .inr (5, [.null, .null, .null, .null, .int 0, .int 1, .int 1, .int 0, .int 0])), (t2, .inr (7, [f0, f1, .ref b, f3]))] := hD
  refine lv_aload_n hx hb dX5_init_19 rfl (lv_at hl 0 rfl) ?_
  refine lv_iconst (v := 0) hx hb dX5_init_20 (by decide) ?_
  refine va_put (ci := 5) (v := .int 0) hx hb hts iX5 tyX5 tyX5_ok nmX5 hown hK hP hD hS 0 rfl rfl 7 (by decide) (hts _ w_228) (fun _ h9 => h9) rfl (tyX5_ok 7 (by decide)) rfl rfl (Nat.le_of_ble_eq_true rfl) dX5_init_21 (fun H locs hP hD hS => ?_)
  have hP : va_P g.1 vwCl [(h, .inr (5, [.null, .null, .null, .null, .int 0, .int 1, .int 1, .int 0, .int 0])), (t2, .inr (7, [f0, f1, .ref b, f3]))] H := hP
  have hD : va_D A [(h, .inr (5, [.null, .null, .null, .null, .int 0, .int 1, .int 1, .int 0, .int 0])), (t2, .inr (7, [f0, f1, .ref b, f3]))] := hD
  refine lv_aload_n hx hb dX5_init_24 rfl (lv_at hl 0 rfl) ?_
  refine lv_iconst (v := 0) hx hb dX5_init_25 (by decide) ?_
  refine va_put (ci := 5) (v := .int 0) hx hb hts iX5 tyX5 tyX5_ok nmX5 hown hK hP hD hS 0 rfl rfl 8 (by decide) (hts _ w_229) (fun _ h9 => h9) rfl (tyX5_ok 8 (by decide)) rfl rfl (Nat.le_of_ble_eq_true rfl) dX5_init_26 (fun H locs hP hD hS => ?_)
  have hP : va_P g.1 vwCl [(h, .inr (5, [.null, .null, .null, .null, .int 0, .int 1, .int 1, .int 0, .int 0])), (t2, .inr (7, [f0, f1, .ref b, f3]))] H := hP
  have hD : va_D A [(h, .inr (5, [.null, .null, .null, .null, .int 0, .int 1, .int 1, .int 0, .int 0])), (t2, .inr (7, [f0, f1, .ref b, f3]))] := hD
  refine lv_aload_n hx hb dX5_init_29 rfl (lv_at hl 0 rfl) ?_
  refine lv_aload_n hx hb dX5_init_30 rfl (lv_at hl 1 rfl) ?_
  refine va_putF (ci := 5) (v := .ref t) hx hb hts iX5 tyX5 tyX5_ok nmX5 hown hK hP hD hS 0 rfl rfl 0 (by decide) (hts _ w_221) (fun _ h9 => h9) rfl hnm rfl (tyX5_ok 0 (by decide)) rfl rfl (Nat.le_of_ble_eq_true rfl) dX5_init_31 (fun H locs hP hD hS => ?_)
  have hP : va_P g.1 vwCl [(h, .inr (5, [.ref t, .null, .null, .null, .int 0, .int 1, .int 1, .int 0, .int 0])), (t2, .inr (7, [f0, f1, .ref b, f3]))] H := hP
  have hD : va_D A [(h, .inr (5, [.ref t, .null, .null, .null, .int 0, .int 1, .int 1, .int 0, .int 0])), (t2, .inr (7, [f0, f1, .ref b, f3]))] := hD
  refine lv_aload_n hx hb dX5_init_34 rfl (lv_at hl 0 rfl) ?_
  refine lv_aload_n hx hb dX5_init_35 rfl (lv_at hl 2 rfl) ?_
  refine va_putF (ci := 5) (v := .ref t2) hx hb hts iX5 tyX5 tyX5_ok nmX5 hown hK hP hD hS 0 rfl rfl 1 (by decide) (hts _ w_222) (fun _ h9 => h9) rfl hnm rfl (tyX5_ok 1 (by decide)) rfl rfl (Nat.le_of_ble_eq_true rfl) dX5_init_36 (fun H locs hP hD hS => ?_)
  have hP : va_P g.1 vwCl [(h, .inr (5, [.ref t, .ref t2, .null, .null, .int 0, .int 1, .int 1, .int 0, .int 0])), (t2, .inr (7, [f0, f1, .ref b, f3]))] H := hP
  have hD : va_D A [(h, .inr (5, [.ref t, .ref t2, .null, .null, .int 0, .int 1, .int 1, .int 0, .int 0])), (t2, .inr (7, [f0, f1, .ref b, f3]))] := hD
  refine lv_aload_n hx hb dX5_init_39 rfl (lv_at hl 0 rfl) ?_
  refine va_new (ci := 3) (fs := [.null, .null]) hx hb hts iX3 tyX3 tyX3_ok hown (hts _ w_192) (hts _ w_193) (hts _ w_64) hK hP hD hS hA rfl (fun j hj => by rcases j with _ | _ | j <;> first | rfl | omega) (Nat.le_of_ble_eq_true rfl) (Nat.le_of_ble_eq_true rfl) dX5_init_40 (fun q1 H hP hD hS => ?_)
  have hP : va_P g.1 vwCl [(h, .inr (5, [.ref t, .ref t2, .null, .null, .int 0, .int 1, .int 1, .int 0, .int 0])), (t2, .inr (7, [f0, f1, .ref b, f3])), (q1, .inr (3, [.null, .null]))] H := hP
  have hD : va_D A [(h, .inr (5, [.ref t, .ref t2, .null, .null, .int 0, .int 1, .int 1, .int 0, .int 0])), (t2, .inr (7, [f0, f1, .ref b, f3])), (q1, .inr (3, [.null, .null]))] := hD
  refine lv_dup hx hb dX5_init_43 rfl ?_
  refine lv_aload_n hx hb dX5_init_44 rfl (lv_at hl 1 rfl) ?_
  refine lv_aload_n hx hb dX5_init_45 rfl (lv_at hl 2 rfl) ?_
  refine va_get (ci := 7) (v := .ref b) hx hb hts iX8 hown hK hP 1 rfl rfl 2 (by decide) (hts _ w_172) (fun _ h9 => h9) rfl dX5_init_46 ?_
  refine za_cv (wc := [(q1, .inr (3, [.null, .null]))]) (wr := [(h, .inr (5, [.ref t, .ref t2, .null, .null, .int 0, .int 1, .int 1, .int 0, .int 0])), (t2, .inr (7, [f0, f1, .ref b, f3]))]) C hP hD hS [2] [0, 1] rfl rfl (by decide) (by decide) (za_runI C hP hD hS [2] rfl (by decide) rfl (kX3_init l g E q1 t b) w_194 mX3_init rfl hl.1 rfl (Nat.le_of_ble_eq_true rfl) dX5_init_49 ⟨Nat.le_of_ble_eq_true rfl, Nat.le_of_ble_eq_true rfl⟩ ⟨Nat.le_of_ble_eq_true rfl, Nat.le_of_ble_eq_true rfl⟩) (fun u49 H locs _ hP hD hS => ?_)
  have hP : va_P g.1 vwCl [(h, .inr (5, [.ref t, .ref t2, .null, .null, .int 0, .int 1, .int 1, .int 0, .int 0])), (t2, .inr (7, [f0, f1, .ref b, f3])), (q1, .inr (3, [.ref t, .ref b]))] H := hP
  have hD : va_D A [(h, .inr (5, [.ref t, .ref t2, .null, .null, .int 0, .int 1, .int 1, .int 0, .int 0])), (t2, .inr (7, [f0, f1, .ref b, f3])), (q1, .inr (3, [.ref t, .ref b]))] := hD
  refine va_putF (ci := 5) (v := .ref q1) hx hb hts iX5 tyX5 tyX5_ok nmX5 hown hK hP hD hS 0 rfl rfl 2 (by decide) (hts _ w_223) (fun _ h9 => h9) rfl hnm rfl (tyX5_ok 2 (by decide)) rfl rfl (Nat.le_of_ble_eq_true rfl) dX5_init_52 (fun H locs hP hD hS => ?_)
  have hP : va_P g.1 vwCl [(h, .inr (5, [.ref t, .ref t2, .ref q1, .null, .int 0, .int 1, .int 1, .int 0, .int 0])), (t2, .inr (7, [f0, f1, .ref b, f3])), (q1, .inr (3, [.ref t, .ref b]))] H := hP
  have hD : va_D A [(h, .inr (5, [.ref t, .ref t2, .ref q1, .null, .int 0, .int 1, .int 1, .int 0, .int 0])), (t2, .inr (7, [f0, f1, .ref b, f3])), (q1, .inr (3, [.ref t, .ref b]))] := hD
  refine lv_aload_n hx hb dX5_init_55 rfl (lv_at hl 0 rfl) ?_
  refine va_new (ci := 4) (fs := [.null, .null, .int 0]) hx hb hts iX4 tyX4 tyX4_ok hown (hts _ w_205) (hts _ w_206) (hts _ w_65) hK hP hD hS hA rfl (fun j hj => by rcases j with _ | _ | _ | j <;> first | rfl | omega) (Nat.le_of_ble_eq_true rfl) (Nat.le_of_ble_eq_true rfl) dX5_init_56 (fun q2 H hP hD hS => ?_)
  have hP : va_P g.1 vwCl [(h, .inr (5, [.ref t, .ref t2, .ref q1, .null, .int 0, .int 1, .int 1, .int 0, .int 0])), (t2, .inr (7, [f0, f1, .ref b, f3])), (q1, .inr (3, [.ref t, .ref b])), (q2, .inr (4, [.null, .null, .int 0]))] H := hP
  have hD : va_D A [(h, .inr (5, [.ref t, .ref t2, .ref q1, .null, .int 0, .int 1, .int 1, .int 0, .int 0])), (t2, .inr (7, [f0, f1, .ref b, f3])), (q1, .inr (3, [.ref t, .ref b])), (q2, .inr (4, [.null, .null, .int 0]))] := hD
  refine lv_dup hx hb dX5_init_59 rfl ?_
  refine lv_aload_n hx hb dX5_init_60 rfl (lv_at hl 1 rfl) ?_
  refine lv_aload_n hx hb dX5_init_61 rfl (lv_at hl 2 rfl) ?_
  refine va_get (ci := 7) (v := .ref b) hx hb hts iX8 hown hK hP 1 rfl rfl 2 (by decide) (hts _ w_172) (fun _ h9 => h9) rfl dX5_init_62 ?_
  refine za_cv (wc := [(q2, .inr (4, [.null, .null, .int 0]))]) (wr := [(h, .inr (5, [.ref t, .ref t2, .ref q1, .null, .int 0, .int 1, .int 1, .int 0, .int 0])), (t2, .inr (7, [f0, f1, .ref b, f3])), (q1, .inr (3, [.ref t, .ref b]))]) C hP hD hS [3] [0, 1, 2] rfl rfl (by decide) (by decide) (za_runI C hP hD hS [3] rfl (by decide) rfl (kX4_init l g E q2 t b) w_207 mX4_init rfl hl.1 rfl (Nat.le_of_ble_eq_true rfl) dX5_init_65 ⟨Nat.le_of_ble_eq_true rfl, Nat.le_of_ble_eq_true rfl⟩ ⟨Nat.le_of_ble_eq_true rfl, Nat.le_of_ble_eq_true rfl⟩) (fun u65 H locs _ hP hD hS => ?_)
  have hP : va_P g.1 vwCl [(h, .inr (5, [.ref t, .ref t2, .ref q1, .null, .int 0, .int 1, .int 1, .int 0, .int 0])), (t2, .inr (7, [f0, f1, .ref b, f3])), (q1, .inr (3, [.ref t, .ref b])), (q2, .inr (4, [.ref t, .ref b, .int 0]))] H := hP
  have hD : va_D A [(h, .inr (5, [.ref t, .ref t2, .ref q1, .null, .int 0, .int 1, .int 1, .int 0, .int 0])), (t2, .inr (7, [f0, f1, .ref b, f3])), (q1, .inr (3, [.ref t, .ref b])), (q2, .inr (4, [.ref t, .ref b, .int 0]))] := hD
  refine va_putF (ci := 5) (v := .ref q2) hx hb hts iX5 tyX5 tyX5_ok nmX5 hown hK hP hD hS 0 rfl rfl 3 (by decide) (hts _ w_224) (fun _ h9 => h9) rfl hnm rfl (tyX5_ok 3 (by decide)) rfl rfl (Nat.le_of_ble_eq_true rfl) dX5_init_68 (fun H locs hP hD hS => ?_)
  have hP : va_P g.1 vwCl [(h, .inr (5, [.ref t, .ref t2, .ref q1, .ref q2, .int 0, .int 1, .int 1, .int 0, .int 0])), (t2, .inr (7, [f0, f1, .ref b, f3])), (q1, .inr (3, [.ref t, .ref b])), (q2, .inr (4, [.ref t, .ref b, .int 0]))] H := hP
  have hD : va_D A [(h, .inr (5, [.ref t, .ref t2, .ref q1, .ref q2, .int 0, .int 1, .int 1, .int 0, .int 0])), (t2, .inr (7, [f0, f1, .ref b, f3])), (q1, .inr (3, [.ref t, .ref b])), (q2, .inr (4, [.ref t, .ref b, .int 0]))] := hD
  exact za_rv hQ hx hb hr hlocks hK hP hD hS (fun k => [q1, q2].getD k 0) trivial [0, 1, 2, 3] rfl (by decide) rfl (Nat.le_of_ble_eq_true rfl) (Nat.le_of_ble_eq_true rfl) dX5_init_71
def zc_N0 : zc_N := ((fun k => if k = 63 then 1 else if k = 55 then 1 else if k = 56 then 1 else 0), (fun a => if a = 20 then (fun k => if k < 512 then -1 else (fun _ => 0) k) else fun _ => 0), (fun _ => 0), (fun a => if a = 0 then 256 else if a = 60 then 256 else if a = 70 then 704 else 32))
set_option maxHeartbeats 8000000 in
set_option maxRecDepth 100000 in
theorem kX9_init (l : Launch) (g : za_G) (E : za_E) (h : Nat) : za_Cv l g E yX9_init cX9_init 1 3 16 1874 [.ref h] [(h, .inr (8, [.null, .null, .null, .null]))] (fun _ : (Nat → Nat) × (Nat → Nat) => True) (fun u => zc_ws g (fun k => if k = 8 then h else u.1 k) u.2 zc_N0) := by
  refine za_begin (by decide) (Nat.le_of_ble_eq_true rfl) RX9 rfl ?_
  intro p e s m args below meth co A ls Q H locs C hQ hr hlocks hnm hS hP hD hl
  obtain ⟨hx, hb, hml, hown, hts, hK, hA, hE⟩ := id C
  have hl : lv_has ls 1 [(0, .ref h)] := hl
  refine lv_aload_n hx hb dX9_init_0 rfl (lv_at hl 0 rfl) ?_
  refine W.objInit hx hb hown (hts _ w_84) (hts _ w_85) (hts _ w_86) rfl (hl.1.trans hml.symm) rfl dX9_init_1 (by decide) (by show 2 * 0 + 0 + 12 ≤ 96; decide) ?_
  refine lv_aload_n hx hb dX9_init_4 rfl (lv_at hl 0 rfl) ?_
  refine va_new (ci := 6) (fs := [.null, .int 0, .int 0, .int 0, .int 0, .int 0]) hx hb hts iX7 tyX7 tyX7_ok hown (hts _ w_87) (hts _ w_88) (hts _ w_58) hK hP hD hS hA rfl (fun j hj => by rcases j with _ | _ | _ | _ | _ | _ | j <;> first | rfl | omega) (Nat.le_of_ble_eq_true rfl) (Nat.le_of_ble_eq_true rfl) dX9_init_5 (fun q1 H hP hD hS => ?_)
  have hP : va_P g.1 vwCl [(h, .inr (8, [.null, .null, .null, .null])), (q1, .inr (6, [.null, .int 0, .int 0, .int 0, .int 0, .int 0]))] H := hP
  have hD : va_D A [(h, .inr (8, [.null, .null, .null, .null])), (q1, .inr (6, [.null, .int 0, .int 0, .int 0, .int 0, .int 0]))] := hD
  refine lv_dup hx hb dX9_init_8 rfl ?_
  refine za_cv (wc := [(q1, .inr (6, [.null, .int 0, .int 0, .int 0, .int 0, .int 0]))]) (wr := [(h, .inr (8, [.null, .null, .null, .null]))]) C hP hD hS [1] [0] rfl rfl (by decide) (by decide) (za_runIN C hP hD hS [1] rfl (by decide) rfl (kX7_init l g E q1) zn_X9_9 mX7_init rfl hl.1 rfl (Nat.le_of_ble_eq_true rfl) dX9_init_9 ⟨Nat.le_of_ble_eq_true rfl, Nat.le_of_ble_eq_true rfl⟩ ⟨Nat.le_of_ble_eq_true rfl, Nat.le_of_ble_eq_true rfl⟩) (fun u9 H locs _ hP hD hS => ?_)
  have hP : va_P g.1 vwCl [(h, .inr (8, [.null, .null, .null, .null])), (q1, .inr (6, [.ref (u9 0), .int 0, .int 0, .int 1, .int 0, .int 0])), (u9 0, .inl (g.2.1, 256, .inl (fun _ => 0)))] H := hP
  have hD : va_D A [(h, .inr (8, [.null, .null, .null, .null])), (q1, .inr (6, [.ref (u9 0), .int 0, .int 0, .int 1, .int 0, .int 0])), (u9 0, .inl (g.2.1, 256, .inl (fun _ => 0)))] := hD
  refine va_putF (ci := 8) (v := .ref q1) hx hb hts iX9 tyX9 tyX9_ok nmX9 hown hK hP hD hS 0 rfl rfl 0 (by decide) (hts _ w_266) (fun _ h9 => h9) rfl hnm rfl (tyX9_ok 0 (by decide)) rfl rfl (Nat.le_of_ble_eq_true rfl) dX9_init_12 (fun H locs hP hD hS => ?_)
  have hP : va_P g.1 vwCl [(h, .inr (8, [.ref q1, .null, .null, .null])), (q1, .inr (6, [.ref (u9 0), .int 0, .int 0, .int 1, .int 0, .int 0])), (u9 0, .inl (g.2.1, 256, .inl (fun _ => 0)))] H := hP
  have hD : va_D A [(h, .inr (8, [.ref q1, .null, .null, .null])), (q1, .inr (6, [.ref (u9 0), .int 0, .int 0, .int 1, .int 0, .int 0])), (u9 0, .inl (g.2.1, 256, .inl (fun _ => 0)))] := hD
  refine lv_aload_n hx hb dX9_init_15 rfl (lv_at hl 0 rfl) ?_
  refine va_new (ci := 7) (fs := [.null, .int 0, .null, .null]) hx hb hts iX8 tyX8 tyX8_ok hown (hts _ w_118) (hts _ w_119) (hts _ w_59) hK hP hD hS hA rfl (fun j hj => by rcases j with _ | _ | _ | _ | j <;> first | rfl | omega) (Nat.le_of_ble_eq_true rfl) (Nat.le_of_ble_eq_true rfl) dX9_init_16 (fun q2 H hP hD hS => ?_)
  have hP : va_P g.1 vwCl [(h, .inr (8, [.ref q1, .null, .null, .null])), (q1, .inr (6, [.ref (u9 0), .int 0, .int 0, .int 1, .int 0, .int 0])), (u9 0, .inl (g.2.1, 256, .inl (fun _ => 0))), (q2, .inr (7, [.null, .int 0, .null, .null]))] H := hP
  have hD : va_D A [(h, .inr (8, [.ref q1, .null, .null, .null])), (q1, .inr (6, [.ref (u9 0), .int 0, .int 0, .int 1, .int 0, .int 0])), (u9 0, .inl (g.2.1, 256, .inl (fun _ => 0))), (q2, .inr (7, [.null, .int 0, .null, .null]))] := hD
  refine lv_dup hx hb dX9_init_19 rfl ?_
  refine za_cv (wc := [(q2, .inr (7, [.null, .int 0, .null, .null]))]) (wr := [(h, .inr (8, [.ref q1, .null, .null, .null])), (q1, .inr (6, [.ref (u9 0), .int 0, .int 0, .int 1, .int 0, .int 0])), (u9 0, .inl (g.2.1, 256, .inl (fun _ => 0)))]) C hP hD hS [3] [0, 1, 2] rfl rfl (by decide) (by decide) (za_runIN C hP hD hS [3] rfl (by decide) rfl (kX8_init l g E q2) zn_X9_18 mX8_init rfl hl.1 rfl (Nat.le_of_ble_eq_true rfl) dX9_init_20 ⟨Nat.le_of_ble_eq_true rfl, Nat.le_of_ble_eq_true rfl⟩ ⟨Nat.le_of_ble_eq_true rfl, Nat.le_of_ble_eq_true rfl⟩) (fun u20 H locs _ hP hD hS => ?_)
  have hP : va_P g.1 vwCl [(h, .inr (8, [.ref q1, .null, .null, .null])), (q1, .inr (6, [.ref (u9 0), .int 0, .int 0, .int 1, .int 0, .int 0])), (u9 0, .inl (g.2.1, 256, .inl (fun _ => 0))), (q2, .inr (7, [.ref (u20 0), .int 0, .ref (u20 1), .ref (u20 3)])), (u20 0, .inl (g.2.2.1, 704, .inl (fun _ => 0))), (u20 1, .inr (0, [.ref (u20 2), .int 0])), (u20 2, .inl (g.2.1, 256, .inl (fun _ => 0))), (u20 3, .inr (2, [.ref (u20 4), .ref (u20 5), .ref (u20 6), .ref (u20 7), .int 0])), (u20 5, .inl (g.2.2.1, 32, .inl (fun _ => 0))), (u20 6, .inl (g.2.2.1, 32, .inl (fun _ => 0))), (u20 7, .inl (g.2.2.1, 32, .inl (fun _ => 0))), (u20 4, .inl (g.2.2.1, 512, .inl (fun k => if k < 512 then -1 else (fun _ => 0) k)))] H := hP
  have hD : va_D A [(h, .inr (8, [.ref q1, .null, .null, .null])), (q1, .inr (6, [.ref (u9 0), .int 0, .int 0, .int 1, .int 0, .int 0])), (u9 0, .inl (g.2.1, 256, .inl (fun _ => 0))), (q2, .inr (7, [.ref (u20 0), .int 0, .ref (u20 1), .ref (u20 3)])), (u20 0, .inl (g.2.2.1, 704, .inl (fun _ => 0))), (u20 1, .inr (0, [.ref (u20 2), .int 0])), (u20 2, .inl (g.2.1, 256, .inl (fun _ => 0))), (u20 3, .inr (2, [.ref (u20 4), .ref (u20 5), .ref (u20 6), .ref (u20 7), .int 0])), (u20 5, .inl (g.2.2.1, 32, .inl (fun _ => 0))), (u20 6, .inl (g.2.2.1, 32, .inl (fun _ => 0))), (u20 7, .inl (g.2.2.1, 32, .inl (fun _ => 0))), (u20 4, .inl (g.2.2.1, 512, .inl (fun k => if k < 512 then -1 else (fun _ => 0) k)))] := hD
  refine va_putF (ci := 8) (v := .ref q2) hx hb hts iX9 tyX9 tyX9_ok nmX9 hown hK hP hD hS 0 rfl rfl 1 (by decide) (hts _ w_267) (fun _ h9 => h9) rfl hnm rfl (tyX9_ok 1 (by decide)) rfl rfl (Nat.le_of_ble_eq_true rfl) dX9_init_23 (fun H locs hP hD hS => ?_)
  have hP : va_P g.1 vwCl [(h, .inr (8, [.ref q1, .ref q2, .null, .null])), (q1, .inr (6, [.ref (u9 0), .int 0, .int 0, .int 1, .int 0, .int 0])), (u9 0, .inl (g.2.1, 256, .inl (fun _ => 0))), (q2, .inr (7, [.ref (u20 0), .int 0, .ref (u20 1), .ref (u20 3)])), (u20 0, .inl (g.2.2.1, 704, .inl (fun _ => 0))), (u20 1, .inr (0, [.ref (u20 2), .int 0])), (u20 2, .inl (g.2.1, 256, .inl (fun _ => 0))), (u20 3, .inr (2, [.ref (u20 4), .ref (u20 5), .ref (u20 6), .ref (u20 7), .int 0])), (u20 5, .inl (g.2.2.1, 32, .inl (fun _ => 0))), (u20 6, .inl (g.2.2.1, 32, .inl (fun _ => 0))), (u20 7, .inl (g.2.2.1, 32, .inl (fun _ => 0))), (u20 4, .inl (g.2.2.1, 512, .inl (fun k => if k < 512 then -1 else (fun _ => 0) k)))] H := hP
  have hD : va_D A [(h, .inr (8, [.ref q1, .ref q2, .null, .null])), (q1, .inr (6, [.ref (u9 0), .int 0, .int 0, .int 1, .int 0, .int 0])), (u9 0, .inl (g.2.1, 256, .inl (fun _ => 0))), (q2, .inr (7, [.ref (u20 0), .int 0, .ref (u20 1), .ref (u20 3)])), (u20 0, .inl (g.2.2.1, 704, .inl (fun _ => 0))), (u20 1, .inr (0, [.ref (u20 2), .int 0])), (u20 2, .inl (g.2.1, 256, .inl (fun _ => 0))), (u20 3, .inr (2, [.ref (u20 4), .ref (u20 5), .ref (u20 6), .ref (u20 7), .int 0])), (u20 5, .inl (g.2.2.1, 32, .inl (fun _ => 0))), (u20 6, .inl (g.2.2.1, 32, .inl (fun _ => 0))), (u20 7, .inl (g.2.2.1, 32, .inl (fun _ => 0))), (u20 4, .inl (g.2.2.1, 512, .inl (fun k => if k < 512 then -1 else (fun _ => 0) k)))] := hD
  refine lv_aload_n hx hb dX9_init_26 rfl (lv_at hl 0 rfl) ?_
  refine va_new (ci := 5) (fs := [.null, .null, .null, .null, .int 0, .int 0, .int 0, .int 0, .int 0]) hx hb hts iX5 tyX5 tyX5_ok hown (hts _ w_186) (hts _ w_187) (hts _ w_63) hK hP hD hS hA rfl (fun j hj => by rcases j with _ | _ | _ | _ | _ | _ | _ | _ | _ | j <;> first | rfl | omega) (Nat.le_of_ble_eq_true rfl) (Nat.le_of_ble_eq_true rfl) dX9_init_27 (fun q3 H hP hD hS => ?_)
  have hP : va_P g.1 vwCl [(h, .inr (8, [.ref q1, .ref q2, .null, .null])), (q1, .inr (6, [.ref (u9 0), .int 0, .int 0, .int 1, .int 0, .int 0])), (u9 0, .inl (g.2.1, 256, .inl (fun _ => 0))), (q2, .inr (7, [.ref (u20 0), .int 0, .ref (u20 1), .ref (u20 3)])), (u20 0, .inl (g.2.2.1, 704, .inl (fun _ => 0))), (u20 1, .inr (0, [.ref (u20 2), .int 0])), (u20 2, .inl (g.2.1, 256, .inl (fun _ => 0))), (u20 3, .inr (2, [.ref (u20 4), .ref (u20 5), .ref (u20 6), .ref (u20 7), .int 0])), (u20 5, .inl (g.2.2.1, 32, .inl (fun _ => 0))), (u20 6, .inl (g.2.2.1, 32, .inl (fun _ => 0))), (u20 7, .inl (g.2.2.1, 32, .inl (fun _ => 0))), (u20 4, .inl (g.2.2.1, 512, .inl (fun k => if k < 512 then -1 else (fun _ => 0) k))), (q3, .inr (5, [.null, .null, .null, .null, .int 0, .int 0, .int 0, .int 0, .int 0]))] H := hP
  have hD : va_D A [(h, .inr (8, [.ref q1, .ref q2, .null, .null])), (q1, .inr (6, [.ref (u9 0), .int 0, .int 0, .int 1, .int 0, .int 0])), (u9 0, .inl (g.2.1, 256, .inl (fun _ => 0))), (q2, .inr (7, [.ref (u20 0), .int 0, .ref (u20 1), .ref (u20 3)])), (u20 0, .inl (g.2.2.1, 704, .inl (fun _ => 0))), (u20 1, .inr (0, [.ref (u20 2), .int 0])), (u20 2, .inl (g.2.1, 256, .inl (fun _ => 0))), (u20 3, .inr (2, [.ref (u20 4), .ref (u20 5), .ref (u20 6), .ref (u20 7), .int 0])), (u20 5, .inl (g.2.2.1, 32, .inl (fun _ => 0))), (u20 6, .inl (g.2.2.1, 32, .inl (fun _ => 0))), (u20 7, .inl (g.2.2.1, 32, .inl (fun _ => 0))), (u20 4, .inl (g.2.2.1, 512, .inl (fun k => if k < 512 then -1 else (fun _ => 0) k))), (q3, .inr (5, [.null, .null, .null, .null, .int 0, .int 0, .int 0, .int 0, .int 0]))] := hD
  refine lv_dup hx hb dX9_init_30 rfl ?_
  refine lv_aload_n hx hb dX9_init_31 rfl (lv_at hl 0 rfl) ?_
  refine va_get (ci := 8) (v := .ref q1) hx hb hts iX9 hown hK hP 0 rfl rfl 0 (by decide) (hts _ w_266) (fun _ h9 => h9) rfl dX9_init_32 ?_
  refine lv_aload_n hx hb dX9_init_35 rfl (lv_at hl 0 rfl) ?_
  refine va_get (ci := 8) (v := .ref q2) hx hb hts iX9 hown hK hP 0 rfl rfl 1 (by decide) (hts _ w_267) (fun _ h9 => h9) rfl dX9_init_36 ?_
  refine za_cv (wc := [(q3, .inr (5, [.null, .null, .null, .null, .int 0, .int 0, .int 0, .int 0, .int 0])), (q2, .inr (7, [.ref (u20 0), .int 0, .ref (u20 1), .ref (u20 3)]))]) (wr := [(h, .inr (8, [.ref q1, .ref q2, .null, .null])), (q1, .inr (6, [.ref (u9 0), .int 0, .int 0, .int 1, .int 0, .int 0])), (u9 0, .inl (g.2.1, 256, .inl (fun _ => 0))), (u20 0, .inl (g.2.2.1, 704, .inl (fun _ => 0))), (u20 1, .inr (0, [.ref (u20 2), .int 0])), (u20 2, .inl (g.2.1, 256, .inl (fun _ => 0))), (u20 3, .inr (2, [.ref (u20 4), .ref (u20 5), .ref (u20 6), .ref (u20 7), .int 0])), (u20 5, .inl (g.2.2.1, 32, .inl (fun _ => 0))), (u20 6, .inl (g.2.2.1, 32, .inl (fun _ => 0))), (u20 7, .inl (g.2.2.1, 32, .inl (fun _ => 0))), (u20 4, .inl (g.2.2.1, 512, .inl (fun k => if k < 512 then -1 else (fun _ => 0) k)))]) C hP hD hS [12, 3] [0, 1, 2, 4, 5, 6, 7, 8, 9, 10, 11] rfl rfl (by decide) (by decide) (za_runI C hP hD hS [12, 3] rfl (by decide) rfl (kX5_init l g E q3 q1 q2 (u20 1) (.ref (u20 0)) (.int 0) (.ref (u20 3))) w_188 mX5_init rfl hl.1 rfl (Nat.le_of_ble_eq_true rfl) dX9_init_39 ⟨Nat.le_of_ble_eq_true rfl, Nat.le_of_ble_eq_true rfl⟩ ⟨Nat.le_of_ble_eq_true rfl, Nat.le_of_ble_eq_true rfl⟩) (fun u39 H locs _ hP hD hS => ?_)
  have hP : va_P g.1 vwCl [(h, .inr (8, [.ref q1, .ref q2, .null, .null])), (q1, .inr (6, [.ref (u9 0), .int 0, .int 0, .int 1, .int 0, .int 0])), (u9 0, .inl (g.2.1, 256, .inl (fun _ => 0))), (u20 0, .inl (g.2.2.1, 704, .inl (fun _ => 0))), (u20 1, .inr (0, [.ref (u20 2), .int 0])), (u20 2, .inl (g.2.1, 256, .inl (fun _ => 0))), (u20 3, .inr (2, [.ref (u20 4), .ref (u20 5), .ref (u20 6), .ref (u20 7), .int 0])), (u20 5, .inl (g.2.2.1, 32, .inl (fun _ => 0))), (u20 6, .inl (g.2.2.1, 32, .inl (fun _ => 0))), (u20 7, .inl (g.2.2.1, 32, .inl (fun _ => 0))), (u20 4, .inl (g.2.2.1, 512, .inl (fun k => if k < 512 then -1 else (fun _ => 0) k))), (q3, .inr (5, [.ref q1, .ref q2, .ref (u39 0), .ref (u39 1), .int 0, .int 1, .int 1, .int 0, .int 0])), (q2, .inr (7, [.ref (u20 0), .int 0, .ref (u20 1), .ref (u20 3)])), (u39 0, .inr (3, [.ref q1, .ref (u20 1)])), (u39 1, .inr (4, [.ref q1, .ref (u20 1), .int 0]))] H := hP
  have hD : va_D A [(h, .inr (8, [.ref q1, .ref q2, .null, .null])), (q1, .inr (6, [.ref (u9 0), .int 0, .int 0, .int 1, .int 0, .int 0])), (u9 0, .inl (g.2.1, 256, .inl (fun _ => 0))), (u20 0, .inl (g.2.2.1, 704, .inl (fun _ => 0))), (u20 1, .inr (0, [.ref (u20 2), .int 0])), (u20 2, .inl (g.2.1, 256, .inl (fun _ => 0))), (u20 3, .inr (2, [.ref (u20 4), .ref (u20 5), .ref (u20 6), .ref (u20 7), .int 0])), (u20 5, .inl (g.2.2.1, 32, .inl (fun _ => 0))), (u20 6, .inl (g.2.2.1, 32, .inl (fun _ => 0))), (u20 7, .inl (g.2.2.1, 32, .inl (fun _ => 0))), (u20 4, .inl (g.2.2.1, 512, .inl (fun k => if k < 512 then -1 else (fun _ => 0) k))), (q3, .inr (5, [.ref q1, .ref q2, .ref (u39 0), .ref (u39 1), .int 0, .int 1, .int 1, .int 0, .int 0])), (q2, .inr (7, [.ref (u20 0), .int 0, .ref (u20 1), .ref (u20 3)])), (u39 0, .inr (3, [.ref q1, .ref (u20 1)])), (u39 1, .inr (4, [.ref q1, .ref (u20 1), .int 0]))] := hD
  refine va_putF (ci := 8) (v := .ref q3) hx hb hts iX9 tyX9 tyX9_ok nmX9 hown hK hP hD hS 0 rfl rfl 2 (by decide) (hts _ w_268) (fun _ h9 => h9) rfl hnm rfl (tyX9_ok 2 (by decide)) rfl rfl (Nat.le_of_ble_eq_true rfl) dX9_init_42 (fun H locs hP hD hS => ?_)
  have hP : va_P g.1 vwCl [(h, .inr (8, [.ref q1, .ref q2, .ref q3, .null])), (q1, .inr (6, [.ref (u9 0), .int 0, .int 0, .int 1, .int 0, .int 0])), (u9 0, .inl (g.2.1, 256, .inl (fun _ => 0))), (u20 0, .inl (g.2.2.1, 704, .inl (fun _ => 0))), (u20 1, .inr (0, [.ref (u20 2), .int 0])), (u20 2, .inl (g.2.1, 256, .inl (fun _ => 0))), (u20 3, .inr (2, [.ref (u20 4), .ref (u20 5), .ref (u20 6), .ref (u20 7), .int 0])), (u20 5, .inl (g.2.2.1, 32, .inl (fun _ => 0))), (u20 6, .inl (g.2.2.1, 32, .inl (fun _ => 0))), (u20 7, .inl (g.2.2.1, 32, .inl (fun _ => 0))), (u20 4, .inl (g.2.2.1, 512, .inl (fun k => if k < 512 then -1 else (fun _ => 0) k))), (q3, .inr (5, [.ref q1, .ref q2, .ref (u39 0), .ref (u39 1), .int 0, .int 1, .int 1, .int 0, .int 0])), (q2, .inr (7, [.ref (u20 0), .int 0, .ref (u20 1), .ref (u20 3)])), (u39 0, .inr (3, [.ref q1, .ref (u20 1)])), (u39 1, .inr (4, [.ref q1, .ref (u20 1), .int 0]))] H := hP
  have hD : va_D A [(h, .inr (8, [.ref q1, .ref q2, .ref q3, .null])), (q1, .inr (6, [.ref (u9 0), .int 0, .int 0, .int 1, .int 0, .int 0])), (u9 0, .inl (g.2.1, 256, .inl (fun _ => 0))), (u20 0, .inl (g.2.2.1, 704, .inl (fun _ => 0))), (u20 1, .inr (0, [.ref (u20 2), .int 0])), (u20 2, .inl (g.2.1, 256, .inl (fun _ => 0))), (u20 3, .inr (2, [.ref (u20 4), .ref (u20 5), .ref (u20 6), .ref (u20 7), .int 0])), (u20 5, .inl (g.2.2.1, 32, .inl (fun _ => 0))), (u20 6, .inl (g.2.2.1, 32, .inl (fun _ => 0))), (u20 7, .inl (g.2.2.1, 32, .inl (fun _ => 0))), (u20 4, .inl (g.2.2.1, 512, .inl (fun k => if k < 512 then -1 else (fun _ => 0) k))), (q3, .inr (5, [.ref q1, .ref q2, .ref (u39 0), .ref (u39 1), .int 0, .int 1, .int 1, .int 0, .int 0])), (q2, .inr (7, [.ref (u20 0), .int 0, .ref (u20 1), .ref (u20 3)])), (u39 0, .inr (3, [.ref q1, .ref (u20 1)])), (u39 1, .inr (4, [.ref q1, .ref (u20 1), .int 0]))] := hD
  refine lv_aload_n hx hb dX9_init_45 rfl (lv_at hl 0 rfl) ?_
  refine va_new (ci := 1) (fs := [.null, .null, .int 0]) hx hb hts iX1 tyX1 tyX1_ok hown (hts _ w_249) (hts _ w_250) (hts _ w_66) hK hP hD hS hA rfl (fun j hj => by rcases j with _ | _ | _ | j <;> first | rfl | omega) (Nat.le_of_ble_eq_true rfl) (Nat.le_of_ble_eq_true rfl) dX9_init_46 (fun q4 H hP hD hS => ?_)
  have hP : va_P g.1 vwCl [(h, .inr (8, [.ref q1, .ref q2, .ref q3, .null])), (q1, .inr (6, [.ref (u9 0), .int 0, .int 0, .int 1, .int 0, .int 0])), (u9 0, .inl (g.2.1, 256, .inl (fun _ => 0))), (u20 0, .inl (g.2.2.1, 704, .inl (fun _ => 0))), (u20 1, .inr (0, [.ref (u20 2), .int 0])), (u20 2, .inl (g.2.1, 256, .inl (fun _ => 0))), (u20 3, .inr (2, [.ref (u20 4), .ref (u20 5), .ref (u20 6), .ref (u20 7), .int 0])), (u20 5, .inl (g.2.2.1, 32, .inl (fun _ => 0))), (u20 6, .inl (g.2.2.1, 32, .inl (fun _ => 0))), (u20 7, .inl (g.2.2.1, 32, .inl (fun _ => 0))), (u20 4, .inl (g.2.2.1, 512, .inl (fun k => if k < 512 then -1 else (fun _ => 0) k))), (q3, .inr (5, [.ref q1, .ref q2, .ref (u39 0), .ref (u39 1), .int 0, .int 1, .int 1, .int 0, .int 0])), (q2, .inr (7, [.ref (u20 0), .int 0, .ref (u20 1), .ref (u20 3)])), (u39 0, .inr (3, [.ref q1, .ref (u20 1)])), (u39 1, .inr (4, [.ref q1, .ref (u20 1), .int 0])), (q4, .inr (1, [.null, .null, .int 0]))] H := hP
  have hD : va_D A [(h, .inr (8, [.ref q1, .ref q2, .ref q3, .null])), (q1, .inr (6, [.ref (u9 0), .int 0, .int 0, .int 1, .int 0, .int 0])), (u9 0, .inl (g.2.1, 256, .inl (fun _ => 0))), (u20 0, .inl (g.2.2.1, 704, .inl (fun _ => 0))), (u20 1, .inr (0, [.ref (u20 2), .int 0])), (u20 2, .inl (g.2.1, 256, .inl (fun _ => 0))), (u20 3, .inr (2, [.ref (u20 4), .ref (u20 5), .ref (u20 6), .ref (u20 7), .int 0])), (u20 5, .inl (g.2.2.1, 32, .inl (fun _ => 0))), (u20 6, .inl (g.2.2.1, 32, .inl (fun _ => 0))), (u20 7, .inl (g.2.2.1, 32, .inl (fun _ => 0))), (u20 4, .inl (g.2.2.1, 512, .inl (fun k => if k < 512 then -1 else (fun _ => 0) k))), (q3, .inr (5, [.ref q1, .ref q2, .ref (u39 0), .ref (u39 1), .int 0, .int 1, .int 1, .int 0, .int 0])), (q2, .inr (7, [.ref (u20 0), .int 0, .ref (u20 1), .ref (u20 3)])), (u39 0, .inr (3, [.ref q1, .ref (u20 1)])), (u39 1, .inr (4, [.ref q1, .ref (u20 1), .int 0])), (q4, .inr (1, [.null, .null, .int 0]))] := hD
  refine lv_dup hx hb dX9_init_49 rfl ?_
  refine lv_aload_n hx hb dX9_init_50 rfl (lv_at hl 0 rfl) ?_
  refine va_get (ci := 8) (v := .ref q2) hx hb hts iX9 hown hK hP 0 rfl rfl 1 (by decide) (hts _ w_267) (fun _ h9 => h9) rfl dX9_init_51 ?_
  refine za_cv (wc := [(q4, .inr (1, [.null, .null, .int 0]))]) (wr := [(h, .inr (8, [.ref q1, .ref q2, .ref q3, .null])), (q1, .inr (6, [.ref (u9 0), .int 0, .int 0, .int 1, .int 0, .int 0])), (u9 0, .inl (g.2.1, 256, .inl (fun _ => 0))), (u20 0, .inl (g.2.2.1, 704, .inl (fun _ => 0))), (u20 1, .inr (0, [.ref (u20 2), .int 0])), (u20 2, .inl (g.2.1, 256, .inl (fun _ => 0))), (u20 3, .inr (2, [.ref (u20 4), .ref (u20 5), .ref (u20 6), .ref (u20 7), .int 0])), (u20 5, .inl (g.2.2.1, 32, .inl (fun _ => 0))), (u20 6, .inl (g.2.2.1, 32, .inl (fun _ => 0))), (u20 7, .inl (g.2.2.1, 32, .inl (fun _ => 0))), (u20 4, .inl (g.2.2.1, 512, .inl (fun k => if k < 512 then -1 else (fun _ => 0) k))), (q3, .inr (5, [.ref q1, .ref q2, .ref (u39 0), .ref (u39 1), .int 0, .int 1, .int 1, .int 0, .int 0])), (q2, .inr (7, [.ref (u20 0), .int 0, .ref (u20 1), .ref (u20 3)])), (u39 0, .inr (3, [.ref q1, .ref (u20 1)])), (u39 1, .inr (4, [.ref q1, .ref (u20 1), .int 0]))]) C hP hD hS [15] [0, 1, 2, 3, 4, 5, 6, 7, 8, 9, 10, 11, 12, 13, 14] rfl rfl (by decide) (by decide) (za_runI C hP hD hS [15] rfl (by decide) rfl (kX1_init l g E q4 q2) w_251 mX1_init rfl hl.1 rfl (Nat.le_of_ble_eq_true rfl) dX9_init_54 ⟨Nat.le_of_ble_eq_true rfl, Nat.le_of_ble_eq_true rfl⟩ ⟨Nat.le_of_ble_eq_true rfl, Nat.le_of_ble_eq_true rfl⟩) (fun u54 H locs _ hP hD hS => ?_)
  have hP : va_P g.1 vwCl [(h, .inr (8, [.ref q1, .ref q2, .ref q3, .null])), (q1, .inr (6, [.ref (u9 0), .int 0, .int 0, .int 1, .int 0, .int 0])), (u9 0, .inl (g.2.1, 256, .inl (fun _ => 0))), (u20 0, .inl (g.2.2.1, 704, .inl (fun _ => 0))), (u20 1, .inr (0, [.ref (u20 2), .int 0])), (u20 2, .inl (g.2.1, 256, .inl (fun _ => 0))), (u20 3, .inr (2, [.ref (u20 4), .ref (u20 5), .ref (u20 6), .ref (u20 7), .int 0])), (u20 5, .inl (g.2.2.1, 32, .inl (fun _ => 0))), (u20 6, .inl (g.2.2.1, 32, .inl (fun _ => 0))), (u20 7, .inl (g.2.2.1, 32, .inl (fun _ => 0))), (u20 4, .inl (g.2.2.1, 512, .inl (fun k => if k < 512 then -1 else (fun _ => 0) k))), (q3, .inr (5, [.ref q1, .ref q2, .ref (u39 0), .ref (u39 1), .int 0, .int 1, .int 1, .int 0, .int 0])), (q2, .inr (7, [.ref (u20 0), .int 0, .ref (u20 1), .ref (u20 3)])), (u39 0, .inr (3, [.ref q1, .ref (u20 1)])), (u39 1, .inr (4, [.ref q1, .ref (u20 1), .int 0])), (q4, .inr (1, [.ref q2, .ref (u54 0), .int 0])), (u54 0, .inl (g.2.2.2.1, 16, .inr (.inl (fun _ => 0))))] H := hP
  have hD : va_D A [(h, .inr (8, [.ref q1, .ref q2, .ref q3, .null])), (q1, .inr (6, [.ref (u9 0), .int 0, .int 0, .int 1, .int 0, .int 0])), (u9 0, .inl (g.2.1, 256, .inl (fun _ => 0))), (u20 0, .inl (g.2.2.1, 704, .inl (fun _ => 0))), (u20 1, .inr (0, [.ref (u20 2), .int 0])), (u20 2, .inl (g.2.1, 256, .inl (fun _ => 0))), (u20 3, .inr (2, [.ref (u20 4), .ref (u20 5), .ref (u20 6), .ref (u20 7), .int 0])), (u20 5, .inl (g.2.2.1, 32, .inl (fun _ => 0))), (u20 6, .inl (g.2.2.1, 32, .inl (fun _ => 0))), (u20 7, .inl (g.2.2.1, 32, .inl (fun _ => 0))), (u20 4, .inl (g.2.2.1, 512, .inl (fun k => if k < 512 then -1 else (fun _ => 0) k))), (q3, .inr (5, [.ref q1, .ref q2, .ref (u39 0), .ref (u39 1), .int 0, .int 1, .int 1, .int 0, .int 0])), (q2, .inr (7, [.ref (u20 0), .int 0, .ref (u20 1), .ref (u20 3)])), (u39 0, .inr (3, [.ref q1, .ref (u20 1)])), (u39 1, .inr (4, [.ref q1, .ref (u20 1), .int 0])), (q4, .inr (1, [.ref q2, .ref (u54 0), .int 0])), (u54 0, .inl (g.2.2.2.1, 16, .inr (.inl (fun _ => 0))))] := hD
  refine va_putF (ci := 8) (v := .ref q4) hx hb hts iX9 tyX9 tyX9_ok nmX9 hown hK hP hD hS 0 rfl rfl 3 (by decide) (hts _ w_269) (fun _ h9 => h9) rfl hnm rfl (tyX9_ok 3 (by decide)) rfl rfl (Nat.le_of_ble_eq_true rfl) dX9_init_57 (fun H locs hP hD hS => ?_)
  have hP : va_P g.1 vwCl [(h, .inr (8, [.ref q1, .ref q2, .ref q3, .ref q4])), (q1, .inr (6, [.ref (u9 0), .int 0, .int 0, .int 1, .int 0, .int 0])), (u9 0, .inl (g.2.1, 256, .inl (fun _ => 0))), (u20 0, .inl (g.2.2.1, 704, .inl (fun _ => 0))), (u20 1, .inr (0, [.ref (u20 2), .int 0])), (u20 2, .inl (g.2.1, 256, .inl (fun _ => 0))), (u20 3, .inr (2, [.ref (u20 4), .ref (u20 5), .ref (u20 6), .ref (u20 7), .int 0])), (u20 5, .inl (g.2.2.1, 32, .inl (fun _ => 0))), (u20 6, .inl (g.2.2.1, 32, .inl (fun _ => 0))), (u20 7, .inl (g.2.2.1, 32, .inl (fun _ => 0))), (u20 4, .inl (g.2.2.1, 512, .inl (fun k => if k < 512 then -1 else (fun _ => 0) k))), (q3, .inr (5, [.ref q1, .ref q2, .ref (u39 0), .ref (u39 1), .int 0, .int 1, .int 1, .int 0, .int 0])), (q2, .inr (7, [.ref (u20 0), .int 0, .ref (u20 1), .ref (u20 3)])), (u39 0, .inr (3, [.ref q1, .ref (u20 1)])), (u39 1, .inr (4, [.ref q1, .ref (u20 1), .int 0])), (q4, .inr (1, [.ref q2, .ref (u54 0), .int 0])), (u54 0, .inl (g.2.2.2.1, 16, .inr (.inl (fun _ => 0))))] H := hP
  have hD : va_D A [(h, .inr (8, [.ref q1, .ref q2, .ref q3, .ref q4])), (q1, .inr (6, [.ref (u9 0), .int 0, .int 0, .int 1, .int 0, .int 0])), (u9 0, .inl (g.2.1, 256, .inl (fun _ => 0))), (u20 0, .inl (g.2.2.1, 704, .inl (fun _ => 0))), (u20 1, .inr (0, [.ref (u20 2), .int 0])), (u20 2, .inl (g.2.1, 256, .inl (fun _ => 0))), (u20 3, .inr (2, [.ref (u20 4), .ref (u20 5), .ref (u20 6), .ref (u20 7), .int 0])), (u20 5, .inl (g.2.2.1, 32, .inl (fun _ => 0))), (u20 6, .inl (g.2.2.1, 32, .inl (fun _ => 0))), (u20 7, .inl (g.2.2.1, 32, .inl (fun _ => 0))), (u20 4, .inl (g.2.2.1, 512, .inl (fun k => if k < 512 then -1 else (fun _ => 0) k))), (q3, .inr (5, [.ref q1, .ref q2, .ref (u39 0), .ref (u39 1), .int 0, .int 1, .int 1, .int 0, .int 0])), (q2, .inr (7, [.ref (u20 0), .int 0, .ref (u20 1), .ref (u20 3)])), (u39 0, .inr (3, [.ref q1, .ref (u20 1)])), (u39 1, .inr (4, [.ref q1, .ref (u20 1), .int 0])), (q4, .inr (1, [.ref q2, .ref (u54 0), .int 0])), (u54 0, .inl (g.2.2.2.1, 16, .inr (.inl (fun _ => 0))))] := hD
  exact za_rv hQ hx hb hr hlocks hK hP hD hS ((fun k => [u20 1, q4, u20 3, u39 0, u39 1, q3, q1, q2, h].getD k 0), (fun k => if k = 0 then u20 2 else if k = 11 then u54 0 else if k = 20 then u20 4 else if k = 21 then u20 5 else if k = 22 then u20 6 else if k = 23 then u20 7 else if k = 60 then u9 0 else if k = 70 then u20 0 else 0)) trivial [4, 15, 6, 13, 14, 11, 1, 12, 0, 5, 16, 10, 7, 8, 9, 2, 3] rfl (by decide) rfl (Nat.le_of_ble_eq_true rfl) (Nat.le_of_ble_eq_true rfl) dX9_init_60
