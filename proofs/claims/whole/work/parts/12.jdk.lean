/-! String constants: length() and charAt() of the JDK, over the constants by their places in zs_str. -/
def zs_ch (i : Nat) (k : Int32) : Int32 := (zs_byt.getD i []).getD k.toNatClampNeg 0 &&& 255
set_option maxHeartbeats 4000000 in
set_option maxRecDepth 100000 in
theorem kJ0_isLatin1_aae02 (l : Launch) (g : za_G) (E : za_E) (i : Nat) (hi : i < 8) : za_Ci l g E yJ0_isLatin1_aae02 cJ0_isLatin1_aae02 1 (some .boolean) 0 0 0 [.ref (E.1 i)] [] (fun r (_ : Unit) => r = 1) (fun _ => []) := by
  refine za_begin (by decide) (Nat.le_of_ble_eq_true rfl) RJ0 rfl ?_
  intro p e s m args below meth co A ls Q H locs C hQ hr hlocks hnm hS hP hD hl
  obtain ⟨hx, hb, hml, hown, hts, hK, hA, hE⟩ := id C
  have hl : lv_has ls 1 [(0, .ref (E.1 i))] := hl
  refine va_gets hx hb hE.2.2.2.1 hS hown (hts _ w_470) (fun _ h9 => h9) dJ0_isLatin1_aae02_0 ?_
  refine lv_if_eq (tgt := 17) hx hb dJ0_isLatin1_aae02_3 (by decide) (fun c_3 => ?_) (fun c_3 => ?_)
  · exact absurd c_3 (by decide)
  · refine lv_aload_n hx hb dJ0_isLatin1_aae02_6 rfl (lv_at hl 0 rfl) ?_
    refine vk_getf hx hb (hE.2.1.1 i hi).2.1 hS hown (hts _ w_1136) (fun _ h9 => h9) dJ0_isLatin1_aae02_7 ?_
    refine lv_if_ne (tgt := 17) hx hb dJ0_isLatin1_aae02_10 (by decide) (fun c_10 => ?_) (fun c_10 => ?_)
    · exact absurd c_10 (by decide)
    · refine lv_iconst (v := 1) hx hb dJ0_isLatin1_aae02_13 (by decide) ?_
      refine lv_goto (tgt := 18) hx hb dJ0_isLatin1_aae02_14 (by decide) ?_
      exact zm_rn hQ hx hb hr hlocks hK hP hD hS (rfl) (rfl) dJ0_isLatin1_aae02_18
set_option maxHeartbeats 4000000 in
set_option maxRecDepth 100000 in
theorem kJ0_coder_7d493 (l : Launch) (g : za_G) (E : za_E) (i : Nat) (hi : i < 8) : za_Ci l g E yJ0_coder_7d493 cJ0_coder_7d493 1 (some .byte) 0 0 0 [.ref (E.1 i)] [] (fun r (_ : Unit) => r = 0) (fun _ => []) := by
  refine za_begin (by decide) (Nat.le_of_ble_eq_true rfl) RJ0 rfl ?_
  intro p e s m args below meth co A ls Q H locs C hQ hr hlocks hnm hS hP hD hl
  obtain ⟨hx, hb, hml, hown, hts, hK, hA, hE⟩ := id C
  have hl : lv_has ls 1 [(0, .ref (E.1 i))] := hl
  refine va_gets hx hb hE.2.2.2.1 hS hown (hts _ w_470) (fun _ h9 => h9) dJ0_coder_7d493_0 ?_
  refine lv_if_eq (tgt := 13) hx hb dJ0_coder_7d493_3 (by decide) (fun c_3 => ?_) (fun c_3 => ?_)
  · exact absurd c_3 (by decide)
  · refine lv_aload_n hx hb dJ0_coder_7d493_6 rfl (lv_at hl 0 rfl) ?_
    refine vk_getf hx hb (hE.2.1.1 i hi).2.1 hS hown (hts _ w_1136) (fun _ h9 => h9) dJ0_coder_7d493_7 ?_
    refine lv_goto (tgt := 14) hx hb dJ0_coder_7d493_10 (by decide) ?_
    exact zm_rn hQ hx hb hr hlocks hK hP hD hS (rfl) (rfl) dJ0_coder_7d493_14
set_option maxHeartbeats 4000000 in
set_option maxRecDepth 100000 in
theorem kJ0_length_8abf5 (l : Launch) (g : za_G) (E : za_E) (i : Nat) (hi : i < 8) : za_Ci l g E yJ0_length_8abf5 cJ0_length_8abf5 1 (some .int) 1 0 0 [.ref (E.1 i)] [] (fun r (_ : Unit) => r = nI (zs_len.getD i 0)) (fun _ => []) := by
  refine za_begin (by decide) (Nat.le_of_ble_eq_true rfl) RJ0 rfl ?_
  intro p e s m args below meth co A ls Q H locs C hQ hr hlocks hnm hS hP hD hl
  obtain ⟨hx, hb, hml, hown, hts, hK, hA, hE⟩ := id C
  have hl : lv_has ls 1 [(0, .ref (E.1 i))] := hl
  refine lv_aload_n hx hb dJ0_length_8abf5_0 rfl (lv_at hl 0 rfl) ?_
  refine vk_getf hx hb (hE.2.1.1 i hi).2.2.1 hS hown (hts _ w_1135) (fun _ h9 => h9) dJ0_length_8abf5_1 ?_
  refine va_tlen (v := nI (zs_len.getD i 0)) hx hb (hE.2.1.1 i hi).2.2.2 hS rfl dJ0_length_8abf5_4 ?_
  refine lv_aload_n hx hb dJ0_length_8abf5_5 rfl (lv_at hl 0 rfl) ?_
  refine za_ci (wc := []) (wr := []) C hP hD hS [] [] rfl rfl (by decide) (by decide) (za_runVK C hP hD hS [] rfl (by decide) rfl (kJ0_coder_7d493 l g E i hi) w_466 mJ0_coder_7d493 i hi rfl rfl rfl hl.1 rfl (Nat.le_of_ble_eq_true rfl) dJ0_length_8abf5_6 ⟨by decide, by decide⟩ ⟨by decide, by decide⟩) (fun r1 _ H locs hr1 hP hD hS => ?_)
  subst hr1
  have hP : va_P g.1 vwCl [] H := hP
  have hD : va_D A [] := hD
  refine lv_ishr hx hb dJ0_length_8abf5_9 ?_
  exact zm_rn hQ hx hb hr hlocks hK hP hD hS (rfl) (sb_shr0 _) dJ0_length_8abf5_10
set_option maxHeartbeats 4000000 in
set_option maxRecDepth 100000 in
theorem kJ3_checkIndex_null (l : Launch) (g : za_G) (E : za_E) (a b : Int32) (h1 : ¬ a < 0) (h2 : a < b) : za_Ci l g E yJ3_checkIndex_8e157 cJ3_checkIndex_8e157 3 (some .int) 0 0 0 [.int a, .int b, .null] [] (fun r (_ : Unit) => r = a) (fun _ => []) := by
  refine za_begin (by decide) (Nat.le_of_ble_eq_true rfl) RJ3 rfl ?_
  intro p e s m args below meth co A ls Q H locs C hQ hr hlocks hnm hS hP hD hl
  obtain ⟨hx, hb, hml, hown, hts, hK, hA, hE⟩ := id C
  have hl : lv_has ls 3 [(0, .int a), (1, .int b), (2, .null)] := hl
  refine lv_iload_n hx hb dJ3_checkIndex_8e157_0 rfl (lv_at hl 0 rfl) ?_
  refine lv_if_lt (tgt := 9) hx hb dJ3_checkIndex_8e157_1 (by decide) (fun c_1 => ?_) (fun c_1 => ?_)
  · exact absurd c_1 h1
  · refine lv_iload_n hx hb dJ3_checkIndex_8e157_4 rfl (lv_at hl 0 rfl) ?_
    refine lv_iload_n hx hb dJ3_checkIndex_8e157_5 rfl (lv_at hl 1 rfl) ?_
    refine lv_icmp_lt (tgt := 16) hx hb dJ3_checkIndex_8e157_6 (by decide) (fun c_6 => ?_) (fun c_6 => ?_)
    · refine lv_iload_n hx hb dJ3_checkIndex_8e157_16 rfl (lv_at hl 0 rfl) ?_
      exact zm_rn hQ hx hb hr hlocks hK hP hD hS (rfl) (rfl) dJ3_checkIndex_8e157_17
    · exact absurd h2 c_6
set_option maxHeartbeats 4000000 in
set_option maxRecDepth 100000 in
theorem kJ3_checkIndex_ref (l : Launch) (g : za_G) (E : za_E) (a b : Int32) (t : Nat) (h1 : ¬ a < 0) (h2 : a < b) : za_Ci l g E yJ3_checkIndex_8e157 cJ3_checkIndex_8e157 3 (some .int) 0 0 0 [.int a, .int b, .ref t] [] (fun r (_ : Unit) => r = a) (fun _ => []) := by
  refine za_begin (by decide) (Nat.le_of_ble_eq_true rfl) RJ3 rfl ?_
  intro p e s m args below meth co A ls Q H locs C hQ hr hlocks hnm hS hP hD hl
  obtain ⟨hx, hb, hml, hown, hts, hK, hA, hE⟩ := id C
  have hl : lv_has ls 3 [(0, .int a), (1, .int b), (2, .ref t)] := hl
  refine lv_iload_n hx hb dJ3_checkIndex_8e157_0 rfl (lv_at hl 0 rfl) ?_
  refine lv_if_lt (tgt := 9) hx hb dJ3_checkIndex_8e157_1 (by decide) (fun c_1 => ?_) (fun c_1 => ?_)
  · exact absurd c_1 h1
  · refine lv_iload_n hx hb dJ3_checkIndex_8e157_4 rfl (lv_at hl 0 rfl) ?_
    refine lv_iload_n hx hb dJ3_checkIndex_8e157_5 rfl (lv_at hl 1 rfl) ?_
    refine lv_icmp_lt (tgt := 16) hx hb dJ3_checkIndex_8e157_6 (by decide) (fun c_6 => ?_) (fun c_6 => ?_)
    · refine lv_iload_n hx hb dJ3_checkIndex_8e157_16 rfl (lv_at hl 0 rfl) ?_
      exact zm_rn hQ hx hb hr hlocks hK hP hD hS (rfl) (rfl) dJ3_checkIndex_8e157_17
    · exact absurd h2 c_6
set_option maxHeartbeats 4000000 in
set_option maxRecDepth 100000 in
theorem kJ0_checkIndex_df160 (l : Launch) (g : za_G) (E : za_E) (a b : Int32) (h1 : ¬ a < 0) (h2 : a < b) : za_Cv l g E yJ0_checkIndex_df160 cJ0_checkIndex_df160 2 1 0 0 [.int a, .int b] [] (fun _ : Unit => True) (fun _ => []) := by
  refine za_begin (by decide) (Nat.le_of_ble_eq_true rfl) RJ0 rfl ?_
  intro p e s m args below meth co A ls Q H locs C hQ hr hlocks hnm hS hP hD hl
  obtain ⟨hx, hb, hml, hown, hts, hK, hA, hE⟩ := id C
  have hl : lv_has ls 2 [(0, .int a), (1, .int b)] := hl
  refine lv_iload_n hx hb dJ0_checkIndex_df160_0 rfl (lv_at hl 0 rfl) ?_
  refine lv_iload_n hx hb dJ0_checkIndex_df160_1 rfl (lv_at hl 1 rfl) ?_
  rcases hE.2.2.2.2.1 with hz | ⟨t, hz⟩
  · refine va_gets hx hb hz hS hown (hts _ w_486) (fun _ h9 => h9) dJ0_checkIndex_df160_2 ?_
    refine za_ci (wc := []) (wr := []) C hP hD hS [] [] rfl rfl (by decide) (by decide) (za_runS C hP hD hS [] rfl (by decide) rfl (kJ3_checkIndex_null l g E a b h1 h2) w_488 mJ3_checkIndex_8e157 rfl hl.1 rfl (Nat.le_of_ble_eq_true rfl) dJ0_checkIndex_df160_5 ⟨by decide, by decide⟩ ⟨by decide, by decide⟩) (fun r _ H locs hr1 hP hD hS => ?_)
    have hP : va_P g.1 vwCl [] H := hP
    have hD : va_D A [] := hD
    refine lv_pop hx hb dJ0_checkIndex_df160_8 rfl ?_
    exact za_rv hQ hx hb hr hlocks hK hP hD hS () trivial [] rfl rfl rfl (Nat.le_refl _) (Nat.le_refl _) dJ0_checkIndex_df160_9
  · refine va_gets hx hb hz hS hown (hts _ w_486) (fun _ h9 => h9) dJ0_checkIndex_df160_2 ?_
    refine za_ci (wc := []) (wr := []) C hP hD hS [] [] rfl rfl (by decide) (by decide) (za_runS C hP hD hS [] rfl (by decide) rfl (kJ3_checkIndex_ref l g E a b t h1 h2) w_488 mJ3_checkIndex_8e157 rfl hl.1 rfl (Nat.le_of_ble_eq_true rfl) dJ0_checkIndex_df160_5 ⟨by decide, by decide⟩ ⟨by decide, by decide⟩) (fun r _ H locs hr1 hP hD hS => ?_)
    have hP : va_P g.1 vwCl [] H := hP
    have hD : va_D A [] := hD
    refine lv_pop hx hb dJ0_checkIndex_df160_8 rfl ?_
    exact za_rv hQ hx hb hr hlocks hK hP hD hS () trivial [] rfl rfl rfl (Nat.le_refl _) (Nat.le_refl _) dJ0_checkIndex_df160_9
theorem zs_len_ok : ∀ i, i < 8 → zs_len.getD i 0 < 2 ^ 31 := by decide +kernel
theorem zs_in {k : Int32} {i : Nat} (hi : i < 8) (h : vp_in k (zs_len.getD i 0)) : ¬ k < 0 ∧ k < nI (zs_len.getD i 0) := by
  obtain ⟨j, hj, rfl⟩ := vp_in_of h (zs_len_ok i hi)
  have hL := zs_len_ok i hi
  exact ⟨nI_pos (by omega), nI_lt hj hL⟩
set_option maxHeartbeats 4000000 in
set_option maxRecDepth 100000 in
theorem kJ1_charAt_3b067 (l : Launch) (g : za_G) (E : za_E) (i : Nat) (hi : i < 8) (k : Int32) (hk : vp_in k (zs_len.getD i 0)) : za_Ci l g E yJ1_charAt_3b067 cJ1_charAt_3b067 2 (some .char) 2 0 0 [.ref (E.2.1 i), .int k] [] (fun r (_ : Unit) => r = zs_ch i k) (fun _ => []) := by
  refine za_begin (by decide) (Nat.le_of_ble_eq_true rfl) RJ1 rfl ?_
  intro p e s m args below meth co A ls Q H locs C hQ hr hlocks hnm hS hP hD hl
  obtain ⟨hx, hb, hml, hown, hts, hK, hA, hE⟩ := id C
  have hl : lv_has ls 2 [(0, .ref (E.2.1 i)), (1, .int k)] := hl
  refine lv_iload_n hx hb dJ1_charAt_3b067_0 rfl (lv_at hl 1 rfl) ?_
  refine lv_aload_n hx hb dJ1_charAt_3b067_1 rfl (lv_at hl 0 rfl) ?_
  refine va_tlen (v := nI (zs_len.getD i 0)) hx hb (hE.2.1.1 i hi).2.2.2 hS rfl dJ1_charAt_3b067_2 ?_
  refine za_cv (wc := []) (wr := []) C hP hD hS [] [] rfl rfl (by decide) (by decide) (za_runS C hP hD hS [] rfl (by decide) rfl (kJ0_checkIndex_df160 l g E k (nI (zs_len.getD i 0)) (zs_in hi hk).1 (zs_in hi hk).2) w_483 mJ0_checkIndex_df160 rfl hl.1 rfl (Nat.le_of_ble_eq_true rfl) dJ1_charAt_3b067_3 ⟨by decide, by decide⟩ ⟨by decide, by decide⟩) (fun _ H locs _ hP hD hS => ?_)
  have hP : va_P g.1 vwCl [] H := hP
  have hD : va_D A [] := hD
  refine lv_aload_n hx hb dJ1_charAt_3b067_6 rfl (lv_at hl 0 rfl) ?_
  refine lv_iload_n hx hb dJ1_charAt_3b067_7 rfl (lv_at hl 1 rfl) ?_
  refine va_tb hx hb (hE.2.1.1 i hi).2.2.2 hS hk rfl dJ1_charAt_3b067_8 ?_
  refine lv_sipush (v := 255) hx hb dJ1_charAt_3b067_9 (by decide) ?_
  refine lv_iand hx hb dJ1_charAt_3b067_12 ?_
  refine lv_i2c (v := ((((zs_byt.getD i []).getD k.toNatClampNeg 0) &&& 255).toUInt32 % 65536).toInt32) hx hb dJ1_charAt_3b067_13 rfl ?_
  exact zm_rn hQ hx hb hr hlocks hK hP hD hS (by rw [sc_c2]; exact sc_nar _) (sc_c2 _) dJ1_charAt_3b067_14
set_option maxHeartbeats 4000000 in
set_option maxRecDepth 100000 in
theorem kJ0_charAt_5068e (l : Launch) (g : za_G) (E : za_E) (i : Nat) (hi : i < 8) (k : Int32) (hk : vp_in k (zs_len.getD i 0)) : za_Ci l g E yJ0_charAt_5068e cJ0_charAt_5068e 2 (some .char) 3 0 0 [.ref (E.1 i), .int k] [] (fun r (_ : Unit) => r = zs_ch i k) (fun _ => []) := by
  refine za_begin (by decide) (Nat.le_of_ble_eq_true rfl) RJ0 rfl ?_
  intro p e s m args below meth co A ls Q H locs C hQ hr hlocks hnm hS hP hD hl
  obtain ⟨hx, hb, hml, hown, hts, hK, hA, hE⟩ := id C
  have hl : lv_has ls 2 [(0, .ref (E.1 i)), (1, .int k)] := hl
  refine lv_aload_n hx hb dJ0_charAt_5068e_0 rfl (lv_at hl 0 rfl) ?_
  refine za_ci (wc := []) (wr := []) C hP hD hS [] [] rfl rfl (by decide) (by decide) (za_runVK C hP hD hS [] rfl (by decide) rfl (kJ0_isLatin1_aae02 l g E i hi) w_476 mJ0_isLatin1_aae02 i hi rfl rfl rfl hl.1 rfl (Nat.le_of_ble_eq_true rfl) dJ0_charAt_5068e_1 ⟨by decide, by decide⟩ ⟨by decide, by decide⟩) (fun r1 _ H locs hr1 hP hD hS => ?_)
  subst hr1
  have hP : va_P g.1 vwCl [] H := hP
  have hD : va_D A [] := hD
  refine lv_if_eq (tgt := 16) hx hb dJ0_charAt_5068e_4 (by decide) (fun c_4 => ?_) (fun c_4 => ?_)
  · exact absurd c_4 (by decide)
  · refine lv_aload_n hx hb dJ0_charAt_5068e_7 rfl (lv_at hl 0 rfl) ?_
    refine vk_getf hx hb (hE.2.1.1 i hi).2.2.1 hS hown (hts _ w_1135) (fun _ h9 => h9) dJ0_charAt_5068e_8 ?_
    refine lv_iload_n hx hb dJ0_charAt_5068e_11 rfl (lv_at hl 1 rfl) ?_
    refine za_ci (wc := []) (wr := []) C hP hD hS [] [] rfl rfl (by decide) (by decide) (za_runS C hP hD hS [] rfl (by decide) rfl (kJ1_charAt_3b067 l g E i hi k hk) w_480 mJ1_charAt_3b067 rfl hl.1 rfl (Nat.le_of_ble_eq_true rfl) dJ0_charAt_5068e_12 ⟨by decide, by decide⟩ ⟨by decide, by decide⟩) (fun r2 _ H locs hr2 hP hD hS => ?_)
    subst hr2
    have hP : va_P g.1 vwCl [] H := hP
    have hD : va_D A [] := hD
    exact zm_rn hQ hx hb hr hlocks hK hP hD hS (sc_nar _) (rfl) dJ0_charAt_5068e_15
theorem zs_S0 : zs_str[0]? = some (RX5, 213, "breakcasechanconstcontinuedefaultdeferelsefallthroughforfuncgogotoifimportinterfacemappackagerangereturnselectstructswitchtypevar") := by decide +kernel
theorem zs_R0 {E : za_E} {A : Nat → Prop} {s : State} {H : Heap} (hE : za_env E A s H) : vk_R RX5 213 "breakcasechanconstcontinuedefaultdeferelsefallthroughforfuncgogotoifimportinterfacemappackagerangereturnselectstructswitchtypevar" (E.1 0) s := hE.2.2.1 0 (RX5, 213, "breakcasechanconstcontinuedefaultdeferelsefallthroughforfuncgogotoifimportinterfacemappackagerangereturnselectstructswitchtypevar") zs_S0
theorem zs_S1 : zs_str[1]? = some (RX9, 82, "no such token or what") := by decide +kernel
theorem zs_R1 {E : za_E} {A : Nat → Prop} {s : State} {H : Heap} (hE : za_env E A s H) : vk_R RX9 82 "no such token or what" (E.1 1) s := hE.2.2.1 1 (RX9, 82, "no such token or what") zs_S1
theorem zs_S2 : zs_str[2]? = some (RX9, 94, "no such byte") := by decide +kernel
theorem zs_R2 {E : za_E} {A : Nat → Prop} {s : State} {H : Heap} (hE : za_env E A s H) : vk_R RX9 94 "no such byte" (E.1 2) s := hE.2.2.1 2 (RX9, 94, "no such byte") zs_S2
theorem zs_S3 : zs_str[3]? = some (RX9, 100, "neither an INT nor a RUNE") := by decide +kernel
theorem zs_R3 {E : za_E} {A : Nat → Prop} {s : State} {H : Heap} (hE : za_env E A s H) : vk_R RX9 100 "neither an INT nor a RUNE" (E.1 3) s := hE.2.2.1 3 (RX9, 100, "neither an INT nor a RUNE") zs_S3
theorem zs_S4 : zs_str[4]? = some (RX9, 106, "no INT, or no such number of bits") := by decide +kernel
theorem zs_R4 {E : za_E} {A : Nat → Prop} {s : State} {H : Heap} (hE : za_env E A s H) : vk_R RX9 106 "no INT, or no such number of bits" (E.1 4) s := hE.2.2.1 4 (RX9, 106, "no INT, or no such number of bits") zs_S4
theorem zs_S5 : zs_str[5]? = some (RX10, 170, "+ - * / % & | ^ << >> &^ += -= *= /= %= &= |= ^= <<= >>= &^= && || <- ++ -- == < > = ! ~ != <= >= := ... ( ) [ ] { } , ; . : ") := by decide +kernel
theorem zs_R5 {E : za_E} {A : Nat → Prop} {s : State} {H : Heap} (hE : za_env E A s H) : vk_R RX10 170 "+ - * / % & | ^ << >> &^ += -= *= /= %= &= |= ^= <<= >>= &^= && || <- ++ -- == < > = ! ~ != <= >= := ... ( ) [ ] { } , ; . : " (E.1 5) s := hE.2.2.1 5 (RX10, 170, "+ - * / % & | ^ << >> &^ += -= *= /= %= &= |= ^= <<= >>= &^= && || <- ++ -- == < > = ! ~ != <= >= := ... ( ) [ ] { } , ; . : ") zs_S5
theorem zs_S6 : zs_str[6]? = some (RX10, 113, "break case chan const continue default defer else fallthrough for func go goto if import interface map package range return select struct switch type var ") := by decide +kernel
theorem zs_R6 {E : za_E} {A : Nat → Prop} {s : State} {H : Heap} (hE : za_env E A s H) : vk_R RX10 113 "break case chan const continue default defer else fallthrough for func go goto if import interface map package range return select struct switch type var " (E.1 6) s := hE.2.2.1 6 (RX10, 113, "break case chan const continue default defer else fallthrough for func go goto if import interface map package range return select struct switch type var ") zs_S6
theorem zs_S7 : zs_str[7]? = some (RX10, 215, "abfnrtv\\") := by decide +kernel
theorem zs_R7 {E : za_E} {A : Nat → Prop} {s : State} {H : Heap} (hE : za_env E A s H) : vk_R RX10 215 "abfnrtv\\" (E.1 7) s := hE.2.2.1 7 (RX10, 215, "abfnrtv\\") zs_S7
