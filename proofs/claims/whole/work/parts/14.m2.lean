theorem z_in {x : Int32} {n : Nat} {k : Int32} (hk : k.toInt = n) (h0 : ¬ x < 0) (h : x < k) : vp_in x n := by
  rw [vp_in_iff]
  rw [Int32.lt_iff_toInt_lt] at h0 h
  have e0 : (0 : Int32).toInt = 0 := rfl
  omega
theorem zm_room_3 (M : zm_M) (q : Int32) : (zm_room M q).1 3 = M.1 3 := by
  unfold zm_room
  split
  · rfl
  · split <;> rfl
theorem zr_room_lt {M : zm_M} (h : ¬ zr_room M = 0) : M.1 3 < 16384 := by
  unfold zr_room at h
  split at h
  · assumption
  · exact absurd rfl h
theorem zm_tok_in {M M1 : zm_M} {q r : Int32} (h3 : ¬ M.1 3 < 0) (hr : r = zr_room M) (hM : M1 = zm_room M q) (h : ¬ r = 0) : vp_in (M1.1 3) 16384 := by
  subst hr
  rw [hM, zm_room_3]
  exact z_in (k := 16384) rfl h3 (zr_room_lt h)
theorem z_add1 {x : Int32} (h0 : ¬ x < 0) (h : x < 16384) : ¬ x + 1 < 0 ∧ ¬ 16384 < x + 1 := by
  rw [Int32.lt_iff_toInt_lt] at *
  rw [Int32.lt_iff_toInt_lt, Int32.toInt_add]
  have e0 : (0 : Int32).toInt = 0 := rfl
  have e1 : (1 : Int32).toInt = 1 := rfl
  have e2 : (16384 : Int32).toInt = 16384 := rfl
  rw [e0] at h0
  rw [e2] at h
  rw [e0, e1, e2]
  have : (x.toInt + 1).bmod (2 ^ 32) = x.toInt + 1 := by
    apply Int.bmod_eq_of_le <;> omega
  omega
theorem z_sub1 {x : Int32} (h0 : ¬ x < 0) (h : ¬ 16384 < x) (hn : ¬ x = 0) : vp_in (x - 1) 16384 := by
  rw [vp_in_iff, Int32.toInt_sub]
  rw [Int32.lt_iff_toInt_lt] at h0 h
  have e0 : (0 : Int32).toInt = 0 := rfl
  have e1 : (1 : Int32).toInt = 1 := rfl
  have e2 : (16384 : Int32).toInt = 16384 := rfl
  have hn2 : x.toInt ≠ 0 := fun q => hn (Int32.toInt_inj.mp (by rw [q, e0]))
  rw [e0] at h0
  rw [e2] at h
  rw [e1]
  have : (x.toInt - 1).bmod (2 ^ 32) = x.toInt - 1 := by
    apply Int.bmod_eq_of_le <;> omega
  omega
theorem zm_T_room {M : zm_M} {q : Int32} (h : zm_T M) : zm_T (zm_room M q) := by
  unfold zm_T at *
  rw [zm_room_3]
  exact h
theorem zm_T_token {M : zm_M} {k n q : Int32} (h : zm_T M) : zm_T (zm_token M k n q) := by
  unfold zm_token
  dsimp only
  split
  · exact zm_T_room h
  · rename_i hr
    have h1 : (zm_room M (M.1 23)).1 3 = M.1 3 := zm_room_3 M _
    show ¬ ((zm_room M (M.1 23)).1 3 + 1) < 0 ∧ ¬ 16384 < ((zm_room M (M.1 23)).1 3 + 1)
    rw [h1]
    exact z_add1 h.1 (zr_room_lt hr)
theorem zm_T_semicolon {M : zm_M} (h : zm_T M) : zm_T (zm_semicolon M) := by
  unfold zm_semicolon
  split
  · exact h
  · exact zm_T_token h
theorem zm_T_error {M : zm_M} (h : zm_T M) : zm_T (zm_error M) := by
  unfold zm_error
  split <;> exact h
set_option maxHeartbeats 4000000 in
set_option maxRecDepth 100000 in
theorem kX10_token (l : Launch) (g : za_G) (E : za_E) (h : Nat) (ad : Nat → Nat) (M : zm_M) (k n q : Int32) (hT : zm_T M) : za_Cv l g E yX10_token cX10_token 4 1 0 0 [.ref h, .int k, .int n, .int q] (zm_ws g h ad M) (fun u : zm_M => u = zm_token M k n q) (fun u => zm_ws g h ad u) := by
  refine za_begin (by decide) (Nat.le_of_ble_eq_true rfl) RX10 rfl ?_
  intro p e s m args below meth co A ls Q H locs C hQ hr hlocks hnm hS hP hD hl
  obtain ⟨hx, hb, hml, hown, hts, hK, hA, hE⟩ := id C
  have hl : lv_has ls 4 [(0, .ref h), (1, .int k), (2, .int n), (3, .int q)] := hl
  refine lv_aload_n hx hb dX10_token_0 rfl (lv_at hl 0 rfl) ?_
  refine lv_aload_n hx hb dX10_token_1 rfl (lv_at hl 0 rfl) ?_
  refine va_get (ci := 9) (v := .int (M.1 23)) hx hb hts iX10 hown hK hP 0 rfl rfl 23 (by decide) (hts _ w_834) (fun _ h9 => h9) rfl dX10_token_2 ?_
  refine za_ci (wc := zm_ws g h ad M) (wr := []) C hP hD hS [0, 1, 2, 3, 4, 5, 6, 7, 8, 9, 10, 11, 12, 13, 14, 15, 16, 17] [] rfl rfl (by decide) (by decide) (za_runV C hP hD hS [0, 1, 2, 3, 4, 5, 6, 7, 8, 9, 10, 11, 12, 13, 14, 15, 16, 17] rfl (by decide) rfl (kX10_room l g E h ad M (M.1 23) ) w_989 mX10_room 0 rfl rfl rfl rfl hl.1 rfl (Nat.le_of_ble_eq_true rfl) dX10_token_5 ⟨by decide, by decide⟩ ⟨by decide, by decide⟩) (fun r1 M1 H locs hM1 hP hD hS => ?_)
  obtain ⟨hr1, hM1⟩ := hM1
  have hP : va_P g.1 vwCl (zm_ws g h ad M1) H := hP
  have hD : va_D A (zm_ws g h ad M1) := hD
  refine lv_if_ne (tgt := 12) hx hb dX10_token_8 (by decide) (fun c_8 => ?_) (fun c_8 => ?_)
  · have hin := zm_tok_in hT.1 hr1 hM1 c_8
    refine lv_aload_n hx hb dX10_token_12 rfl (lv_at hl 0 rfl) ?_
    refine va_get (ci := 9) (v := .ref (ad 4)) hx hb hts iX10 hown hK hP 0 rfl rfl 4 (by decide) (hts _ w_815) (fun _ h9 => h9) rfl dX10_token_13 ?_
    refine lv_aload_n hx hb dX10_token_16 rfl (lv_at hl 0 rfl) ?_
    refine va_get (ci := 9) (v := .int (M1.1 3)) hx hb hts iX10 hown hK hP 0 rfl rfl 3 (by decide) (hts _ w_814) (fun _ h9 => h9) rfl dX10_token_17 ?_
    refine lv_iload_n hx hb dX10_token_20 rfl (lv_at hl 1 rfl) ?_
    refine va_iast (f := M1.2.1 4) hx hb hK hP hD hS 2 1 rfl rfl hin dX10_token_21 (fun H locs hP hD hS => ?_)
    have hP : va_P g.1 vwCl (zm_ws g h ad (zm_a M1 4 (M1.1 3) k)) H := hP
    have hD : va_D A (zm_ws g h ad (zm_a M1 4 (M1.1 3) k)) := hD
    refine lv_aload_n hx hb dX10_token_22 rfl (lv_at hl 0 rfl) ?_
    refine va_get (ci := 9) (v := .ref (ad 5)) hx hb hts iX10 hown hK hP 0 rfl rfl 5 (by decide) (hts _ w_816) (fun _ h9 => h9) rfl dX10_token_23 ?_
    refine lv_aload_n hx hb dX10_token_26 rfl (lv_at hl 0 rfl) ?_
    refine va_get (ci := 9) (v := .int (M1.1 3)) hx hb hts iX10 hown hK hP 0 rfl rfl 3 (by decide) (hts _ w_814) (fun _ h9 => h9) rfl dX10_token_27 ?_
    refine lv_aload_n hx hb dX10_token_30 rfl (lv_at hl 0 rfl) ?_
    refine va_get (ci := 9) (v := .int (M1.1 23)) hx hb hts iX10 hown hK hP 0 rfl rfl 23 (by decide) (hts _ w_834) (fun _ h9 => h9) rfl dX10_token_31 ?_
    refine va_iast (f := M1.2.1 5) hx hb hK hP hD hS 3 1 rfl rfl hin dX10_token_34 (fun H locs hP hD hS => ?_)
    have hP : va_P g.1 vwCl (zm_ws g h ad (zm_a (zm_a M1 4 (M1.1 3) k) 5 (M1.1 3) (M1.1 23))) H := hP
    have hD : va_D A (zm_ws g h ad (zm_a (zm_a M1 4 (M1.1 3) k) 5 (M1.1 3) (M1.1 23))) := hD
    refine lv_aload_n hx hb dX10_token_35 rfl (lv_at hl 0 rfl) ?_
    refine va_get (ci := 9) (v := .ref (ad 6)) hx hb hts iX10 hown hK hP 0 rfl rfl 6 (by decide) (hts _ w_817) (fun _ h9 => h9) rfl dX10_token_36 ?_
    refine lv_aload_n hx hb dX10_token_39 rfl (lv_at hl 0 rfl) ?_
    refine va_get (ci := 9) (v := .int (M1.1 3)) hx hb hts iX10 hown hK hP 0 rfl rfl 3 (by decide) (hts _ w_814) (fun _ h9 => h9) rfl dX10_token_40 ?_
    refine lv_aload_n hx hb dX10_token_43 rfl (lv_at hl 0 rfl) ?_
    refine va_get (ci := 9) (v := .int (M1.1 24)) hx hb hts iX10 hown hK hP 0 rfl rfl 24 (by decide) (hts _ w_835) (fun _ h9 => h9) rfl dX10_token_44 ?_
    refine va_iast (f := M1.2.1 6) hx hb hK hP hD hS 4 1 rfl rfl hin dX10_token_47 (fun H locs hP hD hS => ?_)
    have hP : va_P g.1 vwCl (zm_ws g h ad (zm_a (zm_a (zm_a M1 4 (M1.1 3) k) 5 (M1.1 3) (M1.1 23)) 6 (M1.1 3) (M1.1 24))) H := hP
    have hD : va_D A (zm_ws g h ad (zm_a (zm_a (zm_a M1 4 (M1.1 3) k) 5 (M1.1 3) (M1.1 23)) 6 (M1.1 3) (M1.1 24))) := hD
    refine lv_aload_n hx hb dX10_token_48 rfl (lv_at hl 0 rfl) ?_
    refine va_get (ci := 9) (v := .ref (ad 7)) hx hb hts iX10 hown hK hP 0 rfl rfl 7 (by decide) (hts _ w_818) (fun _ h9 => h9) rfl dX10_token_49 ?_
    refine lv_aload_n hx hb dX10_token_52 rfl (lv_at hl 0 rfl) ?_
    refine va_get (ci := 9) (v := .int (M1.1 3)) hx hb hts iX10 hown hK hP 0 rfl rfl 3 (by decide) (hts _ w_814) (fun _ h9 => h9) rfl dX10_token_53 ?_
    refine lv_aload_n hx hb dX10_token_56 rfl (lv_at hl 0 rfl) ?_
    refine va_get (ci := 9) (v := .int (M1.1 25)) hx hb hts iX10 hown hK hP 0 rfl rfl 25 (by decide) (hts _ w_836) (fun _ h9 => h9) rfl dX10_token_57 ?_
    refine va_iast (f := M1.2.1 7) hx hb hK hP hD hS 5 1 rfl rfl hin dX10_token_60 (fun H locs hP hD hS => ?_)
    have hP : va_P g.1 vwCl (zm_ws g h ad (zm_a (zm_a (zm_a (zm_a M1 4 (M1.1 3) k) 5 (M1.1 3) (M1.1 23)) 6 (M1.1 3) (M1.1 24)) 7 (M1.1 3) (M1.1 25))) H := hP
    have hD : va_D A (zm_ws g h ad (zm_a (zm_a (zm_a (zm_a M1 4 (M1.1 3) k) 5 (M1.1 3) (M1.1 23)) 6 (M1.1 3) (M1.1 24)) 7 (M1.1 3) (M1.1 25))) := hD
    refine lv_aload_n hx hb dX10_token_61 rfl (lv_at hl 0 rfl) ?_
    refine va_get (ci := 9) (v := .ref (ad 8)) hx hb hts iX10 hown hK hP 0 rfl rfl 8 (by decide) (hts _ w_819) (fun _ h9 => h9) rfl dX10_token_62 ?_
    refine lv_aload_n hx hb dX10_token_65 rfl (lv_at hl 0 rfl) ?_
    refine va_get (ci := 9) (v := .int (M1.1 3)) hx hb hts iX10 hown hK hP 0 rfl rfl 3 (by decide) (hts _ w_814) (fun _ h9 => h9) rfl dX10_token_66 ?_
    refine lv_iload_n hx hb dX10_token_69 rfl (lv_at hl 2 rfl) ?_
    refine va_iast (f := M1.2.1 8) hx hb hK hP hD hS 6 1 rfl rfl hin dX10_token_70 (fun H locs hP hD hS => ?_)
    have hP : va_P g.1 vwCl (zm_ws g h ad (zm_a (zm_a (zm_a (zm_a (zm_a M1 4 (M1.1 3) k) 5 (M1.1 3) (M1.1 23)) 6 (M1.1 3) (M1.1 24)) 7 (M1.1 3) (M1.1 25)) 8 (M1.1 3) n)) H := hP
    have hD : va_D A (zm_ws g h ad (zm_a (zm_a (zm_a (zm_a (zm_a M1 4 (M1.1 3) k) 5 (M1.1 3) (M1.1 23)) 6 (M1.1 3) (M1.1 24)) 7 (M1.1 3) (M1.1 25)) 8 (M1.1 3) n)) := hD
    refine lv_aload_n hx hb dX10_token_71 rfl (lv_at hl 0 rfl) ?_
    refine va_get (ci := 9) (v := .ref (ad 9)) hx hb hts iX10 hown hK hP 0 rfl rfl 9 (by decide) (hts _ w_820) (fun _ h9 => h9) rfl dX10_token_72 ?_
    refine lv_aload_n hx hb dX10_token_75 rfl (lv_at hl 0 rfl) ?_
    refine va_get (ci := 9) (v := .int (M1.1 3)) hx hb hts iX10 hown hK hP 0 rfl rfl 3 (by decide) (hts _ w_814) (fun _ h9 => h9) rfl dX10_token_76 ?_
    refine lv_iload_n hx hb dX10_token_79 rfl (lv_at hl 3 rfl) ?_
    refine va_zast (f := M1.2.1 9) hx hb hK hP hD hS 7 3 rfl rfl hin dX10_token_80 (fun H locs hP hD hS => ?_)
    have hP : va_P g.1 vwCl (zm_ws g h ad (zm_a (zm_a (zm_a (zm_a (zm_a (zm_a M1 4 (M1.1 3) k) 5 (M1.1 3) (M1.1 23)) 6 (M1.1 3) (M1.1 24)) 7 (M1.1 3) (M1.1 25)) 8 (M1.1 3) n) 9 (M1.1 3) (vp_nar .boolean q))) H := hP
    have hD : va_D A (zm_ws g h ad (zm_a (zm_a (zm_a (zm_a (zm_a (zm_a M1 4 (M1.1 3) k) 5 (M1.1 3) (M1.1 23)) 6 (M1.1 3) (M1.1 24)) 7 (M1.1 3) (M1.1 25)) 8 (M1.1 3) n) 9 (M1.1 3) (vp_nar .boolean q))) := hD
    refine lv_aload_n hx hb dX10_token_81 rfl (lv_at hl 0 rfl) ?_
    refine va_get (ci := 9) (v := .ref (ad 10)) hx hb hts iX10 hown hK hP 0 rfl rfl 10 (by decide) (hts _ w_821) (fun _ h9 => h9) rfl dX10_token_82 ?_
    refine lv_aload_n hx hb dX10_token_85 rfl (lv_at hl 0 rfl) ?_
    refine va_get (ci := 9) (v := .int (M1.1 3)) hx hb hts iX10 hown hK hP 0 rfl rfl 3 (by decide) (hts _ w_814) (fun _ h9 => h9) rfl dX10_token_86 ?_
    refine lv_iconst (v := (-1)) hx hb dX10_token_89 (by decide) ?_
    refine va_iast (f := M1.2.1 10) hx hb hK hP hD hS 8 1 rfl rfl hin dX10_token_90 (fun H locs hP hD hS => ?_)
    have hP : va_P g.1 vwCl (zm_ws g h ad (zm_a (zm_a (zm_a (zm_a (zm_a (zm_a (zm_a M1 4 (M1.1 3) k) 5 (M1.1 3) (M1.1 23)) 6 (M1.1 3) (M1.1 24)) 7 (M1.1 3) (M1.1 25)) 8 (M1.1 3) n) 9 (M1.1 3) (vp_nar .boolean q)) 10 (M1.1 3) (-1))) H := hP
    have hD : va_D A (zm_ws g h ad (zm_a (zm_a (zm_a (zm_a (zm_a (zm_a (zm_a M1 4 (M1.1 3) k) 5 (M1.1 3) (M1.1 23)) 6 (M1.1 3) (M1.1 24)) 7 (M1.1 3) (M1.1 25)) 8 (M1.1 3) n) 9 (M1.1 3) (vp_nar .boolean q)) 10 (M1.1 3) (-1))) := hD
    refine lv_aload_n hx hb dX10_token_91 rfl (lv_at hl 0 rfl) ?_
    refine va_get (ci := 9) (v := .ref (ad 11)) hx hb hts iX10 hown hK hP 0 rfl rfl 11 (by decide) (hts _ w_822) (fun _ h9 => h9) rfl dX10_token_92 ?_
    refine lv_aload_n hx hb dX10_token_95 rfl (lv_at hl 0 rfl) ?_
    refine va_get (ci := 9) (v := .int (M1.1 3)) hx hb hts iX10 hown hK hP 0 rfl rfl 3 (by decide) (hts _ w_814) (fun _ h9 => h9) rfl dX10_token_96 ?_
    refine lv_iconst (v := 0) hx hb dX10_token_99 (by decide) ?_
    refine va_iast (f := M1.2.1 11) hx hb hK hP hD hS 9 1 rfl rfl hin dX10_token_100 (fun H locs hP hD hS => ?_)
    have hP : va_P g.1 vwCl (zm_ws g h ad (zm_a (zm_a (zm_a (zm_a (zm_a (zm_a (zm_a (zm_a M1 4 (M1.1 3) k) 5 (M1.1 3) (M1.1 23)) 6 (M1.1 3) (M1.1 24)) 7 (M1.1 3) (M1.1 25)) 8 (M1.1 3) n) 9 (M1.1 3) (vp_nar .boolean q)) 10 (M1.1 3) (-1)) 11 (M1.1 3) 0)) H := hP
    have hD : va_D A (zm_ws g h ad (zm_a (zm_a (zm_a (zm_a (zm_a (zm_a (zm_a (zm_a M1 4 (M1.1 3) k) 5 (M1.1 3) (M1.1 23)) 6 (M1.1 3) (M1.1 24)) 7 (M1.1 3) (M1.1 25)) 8 (M1.1 3) n) 9 (M1.1 3) (vp_nar .boolean q)) 10 (M1.1 3) (-1)) 11 (M1.1 3) 0)) := hD
    refine lv_aload_n hx hb dX10_token_101 rfl (lv_at hl 0 rfl) ?_
    refine va_get (ci := 9) (v := .ref (ad 12)) hx hb hts iX10 hown hK hP 0 rfl rfl 12 (by decide) (hts _ w_823) (fun _ h9 => h9) rfl dX10_token_102 ?_
    refine lv_aload_n hx hb dX10_token_105 rfl (lv_at hl 0 rfl) ?_
    refine va_get (ci := 9) (v := .int (M1.1 3)) hx hb hts iX10 hown hK hP 0 rfl rfl 3 (by decide) (hts _ w_814) (fun _ h9 => h9) rfl dX10_token_106 ?_
    refine lv_aload_n hx hb dX10_token_109 rfl (lv_at hl 0 rfl) ?_
    refine va_get (ci := 9) (v := .int (M1.1 15)) hx hb hts iX10 hown hK hP 0 rfl rfl 15 (by decide) (hts _ w_826) (fun _ h9 => h9) rfl dX10_token_110 ?_
    refine va_iast (f := M1.2.1 12) hx hb hK hP hD hS 10 1 rfl rfl hin dX10_token_113 (fun H locs hP hD hS => ?_)
    have hP : va_P g.1 vwCl (zm_ws g h ad (zm_a (zm_a (zm_a (zm_a (zm_a (zm_a (zm_a (zm_a (zm_a M1 4 (M1.1 3) k) 5 (M1.1 3) (M1.1 23)) 6 (M1.1 3) (M1.1 24)) 7 (M1.1 3) (M1.1 25)) 8 (M1.1 3) n) 9 (M1.1 3) (vp_nar .boolean q)) 10 (M1.1 3) (-1)) 11 (M1.1 3) 0) 12 (M1.1 3) (M1.1 15))) H := hP
    have hD : va_D A (zm_ws g h ad (zm_a (zm_a (zm_a (zm_a (zm_a (zm_a (zm_a (zm_a (zm_a M1 4 (M1.1 3) k) 5 (M1.1 3) (M1.1 23)) 6 (M1.1 3) (M1.1 24)) 7 (M1.1 3) (M1.1 25)) 8 (M1.1 3) n) 9 (M1.1 3) (vp_nar .boolean q)) 10 (M1.1 3) (-1)) 11 (M1.1 3) 0) 12 (M1.1 3) (M1.1 15))) := hD
    refine lv_aload_n hx hb dX10_token_114 rfl (lv_at hl 0 rfl) ?_
    refine va_get (ci := 9) (v := .ref (ad 13)) hx hb hts iX10 hown hK hP 0 rfl rfl 13 (by decide) (hts _ w_824) (fun _ h9 => h9) rfl dX10_token_115 ?_
    refine lv_aload_n hx hb dX10_token_118 rfl (lv_at hl 0 rfl) ?_
    refine va_get (ci := 9) (v := .int (M1.1 3)) hx hb hts iX10 hown hK hP 0 rfl rfl 3 (by decide) (hts _ w_814) (fun _ h9 => h9) rfl dX10_token_119 ?_
    refine lv_iconst (v := 0) hx hb dX10_token_122 (by decide) ?_
    refine va_iast (f := M1.2.1 13) hx hb hK hP hD hS 11 1 rfl rfl hin dX10_token_123 (fun H locs hP hD hS => ?_)
    have hP : va_P g.1 vwCl (zm_ws g h ad (zm_a (zm_a (zm_a (zm_a (zm_a (zm_a (zm_a (zm_a (zm_a (zm_a M1 4 (M1.1 3) k) 5 (M1.1 3) (M1.1 23)) 6 (M1.1 3) (M1.1 24)) 7 (M1.1 3) (M1.1 25)) 8 (M1.1 3) n) 9 (M1.1 3) (vp_nar .boolean q)) 10 (M1.1 3) (-1)) 11 (M1.1 3) 0) 12 (M1.1 3) (M1.1 15)) 13 (M1.1 3) 0)) H := hP
    have hD : va_D A (zm_ws g h ad (zm_a (zm_a (zm_a (zm_a (zm_a (zm_a (zm_a (zm_a (zm_a (zm_a M1 4 (M1.1 3) k) 5 (M1.1 3) (M1.1 23)) 6 (M1.1 3) (M1.1 24)) 7 (M1.1 3) (M1.1 25)) 8 (M1.1 3) n) 9 (M1.1 3) (vp_nar .boolean q)) 10 (M1.1 3) (-1)) 11 (M1.1 3) 0) 12 (M1.1 3) (M1.1 15)) 13 (M1.1 3) 0)) := hD
    refine lv_aload_n hx hb dX10_token_124 rfl (lv_at hl 0 rfl) ?_
    refine va_get (ci := 9) (v := .ref (ad 14)) hx hb hts iX10 hown hK hP 0 rfl rfl 14 (by decide) (hts _ w_825) (fun _ h9 => h9) rfl dX10_token_125 ?_
    refine lv_aload_n hx hb dX10_token_128 rfl (lv_at hl 0 rfl) ?_
    refine va_get (ci := 9) (v := .int (M1.1 3)) hx hb hts iX10 hown hK hP 0 rfl rfl 3 (by decide) (hts _ w_814) (fun _ h9 => h9) rfl dX10_token_129 ?_
    refine lv_lconst (v := 0) hx hb dX10_token_132 (by decide) ?_
    refine va_last (f := M1.2.2) hx hb hK hP hD hS 12 2 rfl rfl hin dX10_token_133 (fun H locs hP hD hS => ?_)
    have hP : va_P g.1 vwCl (zm_ws g h ad (zm_v (zm_a (zm_a (zm_a (zm_a (zm_a (zm_a (zm_a (zm_a (zm_a (zm_a M1 4 (M1.1 3) k) 5 (M1.1 3) (M1.1 23)) 6 (M1.1 3) (M1.1 24)) 7 (M1.1 3) (M1.1 25)) 8 (M1.1 3) n) 9 (M1.1 3) (vp_nar .boolean q)) 10 (M1.1 3) (-1)) 11 (M1.1 3) 0) 12 (M1.1 3) (M1.1 15)) 13 (M1.1 3) 0) (M1.1 3) 0)) H := hP
    have hD : va_D A (zm_ws g h ad (zm_v (zm_a (zm_a (zm_a (zm_a (zm_a (zm_a (zm_a (zm_a (zm_a (zm_a M1 4 (M1.1 3) k) 5 (M1.1 3) (M1.1 23)) 6 (M1.1 3) (M1.1 24)) 7 (M1.1 3) (M1.1 25)) 8 (M1.1 3) n) 9 (M1.1 3) (vp_nar .boolean q)) 10 (M1.1 3) (-1)) 11 (M1.1 3) 0) 12 (M1.1 3) (M1.1 15)) 13 (M1.1 3) 0) (M1.1 3) 0)) := hD
    refine lv_aload_n hx hb dX10_token_134 rfl (lv_at hl 0 rfl) ?_
    refine lv_dup hx hb dX10_token_135 rfl ?_
    refine va_get (ci := 9) (v := .int (M1.1 3)) hx hb hts iX10 hown hK hP 0 rfl rfl 3 (by decide) (hts _ w_814) (fun _ h9 => h9) rfl dX10_token_136 ?_
    refine lv_iconst (v := 1) hx hb dX10_token_139 (by decide) ?_
    refine lv_iadd hx hb dX10_token_140 ?_
    refine va_put (ci := 9) (v := .int ((M1.1 3) + 1)) hx hb hts iX10 tyX10 tyX10_ok nmX10 hown hK hP hD hS 0 rfl rfl 3 (by decide) (hts _ w_814) (fun _ h9 => h9) rfl (tyX10_ok 3 (by decide)) rfl rfl (Nat.le_of_ble_eq_true rfl) dX10_token_141 (fun H locs hP hD hS => ?_)
    have hP : va_P g.1 vwCl (zm_ws g h ad (zm_s (zm_v (zm_a (zm_a (zm_a (zm_a (zm_a (zm_a (zm_a (zm_a (zm_a (zm_a M1 4 (M1.1 3) k) 5 (M1.1 3) (M1.1 23)) 6 (M1.1 3) (M1.1 24)) 7 (M1.1 3) (M1.1 25)) 8 (M1.1 3) n) 9 (M1.1 3) (vp_nar .boolean q)) 10 (M1.1 3) (-1)) 11 (M1.1 3) 0) 12 (M1.1 3) (M1.1 15)) 13 (M1.1 3) 0) (M1.1 3) 0) 3 ((M1.1 3) + 1))) H := hP
    have hD : va_D A (zm_ws g h ad (zm_s (zm_v (zm_a (zm_a (zm_a (zm_a (zm_a (zm_a (zm_a (zm_a (zm_a (zm_a M1 4 (M1.1 3) k) 5 (M1.1 3) (M1.1 23)) 6 (M1.1 3) (M1.1 24)) 7 (M1.1 3) (M1.1 25)) 8 (M1.1 3) n) 9 (M1.1 3) (vp_nar .boolean q)) 10 (M1.1 3) (-1)) 11 (M1.1 3) 0) 12 (M1.1 3) (M1.1 15)) 13 (M1.1 3) 0) (M1.1 3) 0) 3 ((M1.1 3) + 1))) := hD
    subst hM1
    subst hr1
    exact zm_rv hQ hx hb hr hlocks hK hP hD hS (by simp [zm_token, zq_upd, c_8]) dX10_token_144
  · subst hM1
    subst hr1
    exact zm_rv hQ hx hb hr hlocks hK hP hD hS (by simp [zm_token, zq_upd, eq_true c_8]) dX10_token_11
set_option maxHeartbeats 4000000 in
set_option maxRecDepth 100000 in
theorem kX10_semicolon (l : Launch) (g : za_G) (E : za_E) (h : Nat) (ad : Nat → Nat) (M : zm_M)  (hT : zm_T M) : za_Cv l g E yX10_semicolon cX10_semicolon 3 2 0 0 [.ref h] (zm_ws g h ad M) (fun u : zm_M => u = zm_semicolon M) (fun u => zm_ws g h ad u) := by
  refine za_begin (by decide) (Nat.le_of_ble_eq_true rfl) RX10 rfl ?_
  intro p e s m args below meth co A ls Q H locs C hQ hr hlocks hnm hS hP hD hl
  obtain ⟨hx, hb, hml, hown, hts, hK, hA, hE⟩ := id C
  have hl : lv_has ls 3 [(0, .ref h)] := hl
  have J_22 : ∀ v : Int32, v = (zr_last M) → W p l e (za_R 2 0 0) s m args below meth co H locs 0 0 Q (F0 m 22 ls (.int v :: [])) := by
    intro v_22 hv_22
    refine lv_istore_n (lv' := [(1, .int v_22), (0, .ref h)]) hx hb dX10_semicolon_22 rfl hl (by decide) rfl (fun ls hl => ?_)
    have J_92 : ∀ v : Int32, v = (zr_asks v_22) → W p l e (za_R 2 0 0) s m args below meth co H locs 0 0 Q (F0 m 92 ls (.int v :: [])) := by
      intro v_92 hv_92
      refine lv_istore_n (lv' := [(2, .int v_92), (1, .int v_22), (0, .ref h)]) hx hb dX10_semicolon_92 rfl hl (by decide) rfl (fun ls hl => ?_)
      refine lv_iload_n hx hb dX10_semicolon_93 rfl (lv_at hl 0 rfl) ?_
      refine lv_if_eq (tgt := 105) hx hb dX10_semicolon_94 (by decide) (fun c_94 => ?_) (fun c_94 => ?_)
      · subst hv_92
        subst hv_22
        exact zm_rv hQ hx hb hr hlocks hK hP hD hS (by simp [zm_semicolon, zq_upd, eq_true c_94]) dX10_semicolon_105
      · refine lv_aload_n hx hb dX10_semicolon_97 rfl (lv_at hl 2 rfl) ?_
        refine lv_bipush (v := 85) hx hb dX10_semicolon_98 (by decide) ?_
        refine lv_iconst (v := 0) hx hb dX10_semicolon_100 (by decide) ?_
        refine lv_iconst (v := 1) hx hb dX10_semicolon_101 (by decide) ?_
        refine za_cv (wc := zm_ws g h ad M) (wr := []) C hP hD hS [0, 1, 2, 3, 4, 5, 6, 7, 8, 9, 10, 11, 12, 13, 14, 15, 16, 17] [] rfl rfl (by decide) (by decide) (za_runV C hP hD hS [0, 1, 2, 3, 4, 5, 6, 7, 8, 9, 10, 11, 12, 13, 14, 15, 16, 17] rfl (by decide) rfl (kX10_token l g E h ad M 85 0 1 hT) w_985 mX10_token 0 rfl rfl rfl rfl hl.1 rfl (Nat.le_of_ble_eq_true rfl) dX10_semicolon_102 ⟨by decide, by decide⟩ ⟨by decide, by decide⟩) (fun M1 H locs hM1 hP hD hS => ?_)
        have hP : va_P g.1 vwCl (zm_ws g h ad M1) H := hP
        have hD : va_D A (zm_ws g h ad M1) := hD
        subst hM1
        subst hv_92
        subst hv_22
        exact zm_rv hQ hx hb hr hlocks hK hP hD hS (by simp [zm_semicolon, zq_upd, c_94]) dX10_semicolon_105
    refine lv_iload_n hx hb dX10_semicolon_23 rfl (lv_at hl 0 rfl) ?_
    refine lv_iconst (v := 1) hx hb dX10_semicolon_24 (by decide) ?_
    refine lv_icmp_lt (tgt := 33) hx hb dX10_semicolon_25 (by decide) (fun c_25 => ?_) (fun c_25 => ?_)
    · refine lv_iload_n hx hb dX10_semicolon_33 rfl (lv_at hl 0 rfl) ?_
      refine lv_bipush (v := 10) hx hb dX10_semicolon_34 (by decide) ?_
      refine lv_icmp_eq (tgt := 87) hx hb dX10_semicolon_36 (by decide) (fun c_36 => ?_) (fun c_36 => ?_)
      · refine lv_iconst (v := 1) hx hb dX10_semicolon_87 (by decide) ?_
        refine lv_goto (tgt := 92) hx hb dX10_semicolon_88 (by decide) ?_
        exact J_92 1 (by simp [zr_asks, c_25, eq_true c_36])
      · refine lv_iload_n hx hb dX10_semicolon_39 rfl (lv_at hl 0 rfl) ?_
        refine lv_bipush (v := 14) hx hb dX10_semicolon_40 (by decide) ?_
        refine lv_icmp_eq (tgt := 87) hx hb dX10_semicolon_42 (by decide) (fun c_42 => ?_) (fun c_42 => ?_)
        · refine lv_iconst (v := 1) hx hb dX10_semicolon_87 (by decide) ?_
          refine lv_goto (tgt := 92) hx hb dX10_semicolon_88 (by decide) ?_
          exact J_92 1 (by simp [zr_asks, c_25, c_36, eq_true c_42])
        · refine lv_iload_n hx hb dX10_semicolon_45 rfl (lv_at hl 0 rfl) ?_
          refine lv_bipush (v := 18) hx hb dX10_semicolon_46 (by decide) ?_
          refine lv_icmp_eq (tgt := 87) hx hb dX10_semicolon_48 (by decide) (fun c_48 => ?_) (fun c_48 => ?_)
          · refine lv_iconst (v := 1) hx hb dX10_semicolon_87 (by decide) ?_
            refine lv_goto (tgt := 92) hx hb dX10_semicolon_88 (by decide) ?_
            exact J_92 1 (by simp [zr_asks, c_25, c_36, c_42, eq_true c_48])
          · refine lv_iload_n hx hb dX10_semicolon_51 rfl (lv_at hl 0 rfl) ?_
            refine lv_bipush (v := 29) hx hb dX10_semicolon_52 (by decide) ?_
            refine lv_icmp_eq (tgt := 87) hx hb dX10_semicolon_54 (by decide) (fun c_54 => ?_) (fun c_54 => ?_)
            · refine lv_iconst (v := 1) hx hb dX10_semicolon_87 (by decide) ?_
              refine lv_goto (tgt := 92) hx hb dX10_semicolon_88 (by decide) ?_
              exact J_92 1 (by simp [zr_asks, c_25, c_36, c_42, c_48, eq_true c_54])
            · refine lv_iload_n hx hb dX10_semicolon_57 rfl (lv_at hl 0 rfl) ?_
              refine lv_bipush (v := 65) hx hb dX10_semicolon_58 (by decide) ?_
              refine lv_icmp_eq (tgt := 87) hx hb dX10_semicolon_60 (by decide) (fun c_60 => ?_) (fun c_60 => ?_)
              · refine lv_iconst (v := 1) hx hb dX10_semicolon_87 (by decide) ?_
                refine lv_goto (tgt := 92) hx hb dX10_semicolon_88 (by decide) ?_
                exact J_92 1 (by simp [zr_asks, c_25, c_36, c_42, c_48, c_54, eq_true c_60])
              · refine lv_iload_n hx hb dX10_semicolon_63 rfl (lv_at hl 0 rfl) ?_
                refine lv_bipush (v := 66) hx hb dX10_semicolon_64 (by decide) ?_
                refine lv_icmp_eq (tgt := 87) hx hb dX10_semicolon_66 (by decide) (fun c_66 => ?_) (fun c_66 => ?_)
                · refine lv_iconst (v := 1) hx hb dX10_semicolon_87 (by decide) ?_
                  refine lv_goto (tgt := 92) hx hb dX10_semicolon_88 (by decide) ?_
                  exact J_92 1 (by simp [zr_asks, c_25, c_36, c_42, c_48, c_54, c_60, eq_true c_66])
                · refine lv_iload_n hx hb dX10_semicolon_69 rfl (lv_at hl 0 rfl) ?_
                  refine lv_bipush (v := 79) hx hb dX10_semicolon_70 (by decide) ?_
                  refine lv_icmp_eq (tgt := 87) hx hb dX10_semicolon_72 (by decide) (fun c_72 => ?_) (fun c_72 => ?_)
                  · refine lv_iconst (v := 1) hx hb dX10_semicolon_87 (by decide) ?_
                    refine lv_goto (tgt := 92) hx hb dX10_semicolon_88 (by decide) ?_
                    exact J_92 1 (by simp [zr_asks, c_25, c_36, c_42, c_48, c_54, c_60, c_66, eq_true c_72])
                  · refine lv_iload_n hx hb dX10_semicolon_75 rfl (lv_at hl 0 rfl) ?_
                    refine lv_bipush (v := 81) hx hb dX10_semicolon_76 (by decide) ?_
                    refine lv_icmp_eq (tgt := 87) hx hb dX10_semicolon_78 (by decide) (fun c_78 => ?_) (fun c_78 => ?_)
                    · refine lv_iconst (v := 1) hx hb dX10_semicolon_87 (by decide) ?_
                      refine lv_goto (tgt := 92) hx hb dX10_semicolon_88 (by decide) ?_
                      exact J_92 1 (by simp [zr_asks, c_25, c_36, c_42, c_48, c_54, c_60, c_66, c_72, eq_true c_78])
                    · refine lv_iload_n hx hb dX10_semicolon_81 rfl (lv_at hl 0 rfl) ?_
                      refine lv_bipush (v := 83) hx hb dX10_semicolon_82 (by decide) ?_
                      refine lv_icmp_ne (tgt := 91) hx hb dX10_semicolon_84 (by decide) (fun c_84 => ?_) (fun c_84 => ?_)
                      · refine lv_iconst (v := 0) hx hb dX10_semicolon_91 (by decide) ?_
                        exact J_92 0 (by simp [zr_asks, c_25, c_36, c_42, c_48, c_54, c_60, c_66, c_72, c_78, c_84])
                      · refine lv_iconst (v := 1) hx hb dX10_semicolon_87 (by decide) ?_
                        refine lv_goto (tgt := 92) hx hb dX10_semicolon_88 (by decide) ?_
                        exact J_92 1 (by simp [zr_asks, c_25, c_36, c_42, c_48, c_54, c_60, c_66, c_72, c_78, eq_true c_84])
    · refine lv_iload_n hx hb dX10_semicolon_28 rfl (lv_at hl 0 rfl) ?_
      refine lv_iconst (v := 5) hx hb dX10_semicolon_29 (by decide) ?_
      refine za_icmp_le (tgt := 87) hx hb dX10_semicolon_30 (by decide) (fun c_30 => ?_) (fun c_30 => ?_)
      · refine lv_iconst (v := 1) hx hb dX10_semicolon_87 (by decide) ?_
        refine lv_goto (tgt := 92) hx hb dX10_semicolon_88 (by decide) ?_
        exact J_92 1 (by simp [zr_asks, c_25, c_30])
      · refine lv_iload_n hx hb dX10_semicolon_33 rfl (lv_at hl 0 rfl) ?_
        refine lv_bipush (v := 10) hx hb dX10_semicolon_34 (by decide) ?_
        refine lv_icmp_eq (tgt := 87) hx hb dX10_semicolon_36 (by decide) (fun c_36 => ?_) (fun c_36 => ?_)
        · refine lv_iconst (v := 1) hx hb dX10_semicolon_87 (by decide) ?_
          refine lv_goto (tgt := 92) hx hb dX10_semicolon_88 (by decide) ?_
          exact J_92 1 (by simp [zr_asks, c_25, c_30, eq_true c_36])
        · refine lv_iload_n hx hb dX10_semicolon_39 rfl (lv_at hl 0 rfl) ?_
          refine lv_bipush (v := 14) hx hb dX10_semicolon_40 (by decide) ?_
          refine lv_icmp_eq (tgt := 87) hx hb dX10_semicolon_42 (by decide) (fun c_42 => ?_) (fun c_42 => ?_)
          · refine lv_iconst (v := 1) hx hb dX10_semicolon_87 (by decide) ?_
            refine lv_goto (tgt := 92) hx hb dX10_semicolon_88 (by decide) ?_
            exact J_92 1 (by simp [zr_asks, c_25, c_30, c_36, eq_true c_42])
          · refine lv_iload_n hx hb dX10_semicolon_45 rfl (lv_at hl 0 rfl) ?_
            refine lv_bipush (v := 18) hx hb dX10_semicolon_46 (by decide) ?_
            refine lv_icmp_eq (tgt := 87) hx hb dX10_semicolon_48 (by decide) (fun c_48 => ?_) (fun c_48 => ?_)
            · refine lv_iconst (v := 1) hx hb dX10_semicolon_87 (by decide) ?_
              refine lv_goto (tgt := 92) hx hb dX10_semicolon_88 (by decide) ?_
              exact J_92 1 (by simp [zr_asks, c_25, c_30, c_36, c_42, eq_true c_48])
            · refine lv_iload_n hx hb dX10_semicolon_51 rfl (lv_at hl 0 rfl) ?_
              refine lv_bipush (v := 29) hx hb dX10_semicolon_52 (by decide) ?_
              refine lv_icmp_eq (tgt := 87) hx hb dX10_semicolon_54 (by decide) (fun c_54 => ?_) (fun c_54 => ?_)
              · refine lv_iconst (v := 1) hx hb dX10_semicolon_87 (by decide) ?_
                refine lv_goto (tgt := 92) hx hb dX10_semicolon_88 (by decide) ?_
                exact J_92 1 (by simp [zr_asks, c_25, c_30, c_36, c_42, c_48, eq_true c_54])
              · refine lv_iload_n hx hb dX10_semicolon_57 rfl (lv_at hl 0 rfl) ?_
                refine lv_bipush (v := 65) hx hb dX10_semicolon_58 (by decide) ?_
                refine lv_icmp_eq (tgt := 87) hx hb dX10_semicolon_60 (by decide) (fun c_60 => ?_) (fun c_60 => ?_)
                · refine lv_iconst (v := 1) hx hb dX10_semicolon_87 (by decide) ?_
                  refine lv_goto (tgt := 92) hx hb dX10_semicolon_88 (by decide) ?_
                  exact J_92 1 (by simp [zr_asks, c_25, c_30, c_36, c_42, c_48, c_54, eq_true c_60])
                · refine lv_iload_n hx hb dX10_semicolon_63 rfl (lv_at hl 0 rfl) ?_
                  refine lv_bipush (v := 66) hx hb dX10_semicolon_64 (by decide) ?_
                  refine lv_icmp_eq (tgt := 87) hx hb dX10_semicolon_66 (by decide) (fun c_66 => ?_) (fun c_66 => ?_)
                  · refine lv_iconst (v := 1) hx hb dX10_semicolon_87 (by decide) ?_
                    refine lv_goto (tgt := 92) hx hb dX10_semicolon_88 (by decide) ?_
                    exact J_92 1 (by simp [zr_asks, c_25, c_30, c_36, c_42, c_48, c_54, c_60, eq_true c_66])
                  · refine lv_iload_n hx hb dX10_semicolon_69 rfl (lv_at hl 0 rfl) ?_
                    refine lv_bipush (v := 79) hx hb dX10_semicolon_70 (by decide) ?_
                    refine lv_icmp_eq (tgt := 87) hx hb dX10_semicolon_72 (by decide) (fun c_72 => ?_) (fun c_72 => ?_)
                    · refine lv_iconst (v := 1) hx hb dX10_semicolon_87 (by decide) ?_
                      refine lv_goto (tgt := 92) hx hb dX10_semicolon_88 (by decide) ?_
                      exact J_92 1 (by simp [zr_asks, c_25, c_30, c_36, c_42, c_48, c_54, c_60, c_66, eq_true c_72])
                    · refine lv_iload_n hx hb dX10_semicolon_75 rfl (lv_at hl 0 rfl) ?_
                      refine lv_bipush (v := 81) hx hb dX10_semicolon_76 (by decide) ?_
                      refine lv_icmp_eq (tgt := 87) hx hb dX10_semicolon_78 (by decide) (fun c_78 => ?_) (fun c_78 => ?_)
                      · refine lv_iconst (v := 1) hx hb dX10_semicolon_87 (by decide) ?_
                        refine lv_goto (tgt := 92) hx hb dX10_semicolon_88 (by decide) ?_
                        exact J_92 1 (by simp [zr_asks, c_25, c_30, c_36, c_42, c_48, c_54, c_60, c_66, c_72, eq_true c_78])
                      · refine lv_iload_n hx hb dX10_semicolon_81 rfl (lv_at hl 0 rfl) ?_
                        refine lv_bipush (v := 83) hx hb dX10_semicolon_82 (by decide) ?_
                        refine lv_icmp_ne (tgt := 91) hx hb dX10_semicolon_84 (by decide) (fun c_84 => ?_) (fun c_84 => ?_)
                        · refine lv_iconst (v := 0) hx hb dX10_semicolon_91 (by decide) ?_
                          exact J_92 0 (by simp [zr_asks, c_25, c_30, c_36, c_42, c_48, c_54, c_60, c_66, c_72, c_78, c_84])
                        · refine lv_iconst (v := 1) hx hb dX10_semicolon_87 (by decide) ?_
                          refine lv_goto (tgt := 92) hx hb dX10_semicolon_88 (by decide) ?_
                          exact J_92 1 (by simp [zr_asks, c_25, c_30, c_36, c_42, c_48, c_54, c_60, c_66, c_72, c_78, eq_true c_84])
  refine lv_aload_n hx hb dX10_semicolon_0 rfl (lv_at hl 0 rfl) ?_
  refine va_get (ci := 9) (v := .int (M.1 3)) hx hb hts iX10 hown hK hP 0 rfl rfl 3 (by decide) (hts _ w_814) (fun _ h9 => h9) rfl dX10_semicolon_1 ?_
  refine lv_if_ne (tgt := 11) hx hb dX10_semicolon_4 (by decide) (fun c_4 => ?_) (fun c_4 => ?_)
  · refine lv_aload_n hx hb dX10_semicolon_11 rfl (lv_at hl 0 rfl) ?_
    refine va_get (ci := 9) (v := .ref (ad 4)) hx hb hts iX10 hown hK hP 0 rfl rfl 4 (by decide) (hts _ w_815) (fun _ h9 => h9) rfl dX10_semicolon_12 ?_
    refine lv_aload_n hx hb dX10_semicolon_15 rfl (lv_at hl 0 rfl) ?_
    refine va_get (ci := 9) (v := .int (M.1 3)) hx hb hts iX10 hown hK hP 0 rfl rfl 3 (by decide) (hts _ w_814) (fun _ h9 => h9) rfl dX10_semicolon_16 ?_
    refine lv_iconst (v := 1) hx hb dX10_semicolon_19 (by decide) ?_
    refine lv_isub hx hb dX10_semicolon_20 ?_
    refine va_iald (f := M.2.1 4) hx hb hK hP 2 1 rfl rfl (z_sub1 hT.1 hT.2 c_4) dX10_semicolon_21 ?_
    exact J_22 (M.2.1 4 ((M.1 3) - 1).toNatClampNeg) (by simp [zr_last, c_4])
  · refine lv_iconst (v := 0) hx hb dX10_semicolon_7 (by decide) ?_
    refine lv_goto (tgt := 22) hx hb dX10_semicolon_8 (by decide) ?_
    exact J_22 0 (by simp [zr_last, eq_true c_4])
set_option maxHeartbeats 4000000 in
set_option maxRecDepth 100000 in
theorem kX10_gap (l : Launch) (g : za_G) (E : za_E) (h : Nat) (ad : Nat → Nat) (M : zm_M) (x : Int32) (hT : zm_T M) : za_Cv l g E yX10_gap cX10_gap 3 5 0 0 [.ref h, .int x] (zm_ws g h ad M) (fun u : zm_M => u = zm_gap M x) (fun u => zm_ws g h ad u) := by
  refine za_begin (by decide) (Nat.le_of_ble_eq_true rfl) RX10 rfl ?_
  intro p e s m args below meth co A ls Q H locs C hQ hr hlocks hnm hS hP hD hl
  obtain ⟨hx, hb, hml, hown, hts, hK, hA, hE⟩ := id C
  have hl : lv_has ls 3 [(0, .ref h), (1, .int x)] := hl
  refine lv_aload_n hx hb dX10_gap_0 rfl (lv_at hl 0 rfl) ?_
  refine va_get (ci := 9) (v := .int (M.1 30)) hx hb hts iX10 hown hK hP 0 rfl rfl 30 (by decide) (hts _ w_841) (fun _ h9 => h9) rfl dX10_gap_1 ?_
  refine lv_if_lt (tgt := 8) hx hb dX10_gap_4 (by decide) (fun c_4 => ?_) (fun c_4 => ?_)
  · have J_31 : ∀ v : Int32, v = (zr_blank x) → W p l e (za_R 5 0 0) s m args below meth co H locs 0 0 Q (F0 m 31 ls (.int v :: [])) := by
      intro v_31 hv_31
      refine lv_istore_n (lv' := [(2, .int v_31), (0, .ref h), (1, .int x)]) hx hb dX10_gap_31 rfl hl (by decide) rfl (fun ls hl => ?_)
      refine lv_iload_n hx hb dX10_gap_32 rfl (lv_at hl 0 rfl) ?_
      refine lv_if_eq (tgt := 37) hx hb dX10_gap_33 (by decide) (fun c_33 => ?_) (fun c_33 => ?_)
      · refine lv_aload_n hx hb dX10_gap_37 rfl (lv_at hl 1 rfl) ?_
        refine lv_iconst (v := 0) hx hb dX10_gap_38 (by decide) ?_
        refine za_cv (wc := zm_ws g h ad M) (wr := []) C hP hD hS [0, 1, 2, 3, 4, 5, 6, 7, 8, 9, 10, 11, 12, 13, 14, 15, 16, 17] [] rfl rfl (by decide) (by decide) (za_runV C hP hD hS [0, 1, 2, 3, 4, 5, 6, 7, 8, 9, 10, 11, 12, 13, 14, 15, 16, 17] rfl (by decide) rfl (kX10_begin l g E h ad M 0 ) w_977 mX10_begin 0 rfl rfl rfl rfl hl.1 rfl (Nat.le_of_ble_eq_true rfl) dX10_gap_39 ⟨by decide, by decide⟩ ⟨by decide, by decide⟩) (fun M1 H locs hM1 hP hD hS => ?_)
        have hP : va_P g.1 vwCl (zm_ws g h ad M1) H := hP
        have hD : va_D A (zm_ws g h ad M1) := hD
        refine lv_iload_n hx hb dX10_gap_42 rfl (lv_at hl 2 rfl) ?_
        refine lv_bipush (v := 10) hx hb dX10_gap_43 (by decide) ?_
        refine lv_icmp_eq (tgt := 53) hx hb dX10_gap_45 (by decide) (fun c_45 => ?_) (fun c_45 => ?_)
        · refine lv_aload_n hx hb dX10_gap_53 rfl (lv_at hl 1 rfl) ?_
          refine za_cv (wc := zm_ws g h ad M1) (wr := []) C hP hD hS [0, 1, 2, 3, 4, 5, 6, 7, 8, 9, 10, 11, 12, 13, 14, 15, 16, 17] [] rfl rfl (by decide) (by decide) (za_runV C hP hD hS [0, 1, 2, 3, 4, 5, 6, 7, 8, 9, 10, 11, 12, 13, 14, 15, 16, 17] rfl (by decide) rfl (kX10_semicolon l g E h ad M1  (hM1 ▸ hT)) w_981 mX10_semicolon 0 rfl rfl rfl rfl hl.1 rfl (Nat.le_of_ble_eq_true rfl) dX10_gap_54 ⟨by decide, by decide⟩ ⟨by decide, by decide⟩) (fun M2 H locs hM2 hP hD hS => ?_)
          have hP : va_P g.1 vwCl (zm_ws g h ad M2) H := hP
          have hD : va_D A (zm_ws g h ad M2) := hD
          subst hM2
          subst hM1
          subst hv_31
          exact zm_rv hQ hx hb hr hlocks hK hP hD hS (by simp [zm_gap, zq_upd, c_4, eq_true c_33, eq_true c_45]) dX10_gap_57
        · refine lv_iload_n hx hb dX10_gap_48 rfl (lv_at hl 2 rfl) ?_
          refine lv_iconst (v := (-1)) hx hb dX10_gap_49 (by decide) ?_
          refine lv_icmp_ne (tgt := 58) hx hb dX10_gap_50 (by decide) (fun c_50 => ?_) (fun c_50 => ?_)
          · refine lv_aload_n hx hb dX10_gap_58 rfl (lv_at hl 1 rfl) ?_
            refine lv_iconst (v := 0) hx hb dX10_gap_59 (by decide) ?_
            refine va_put (ci := 9) (v := .int 0) hx hb hts iX10 tyX10 tyX10_ok nmX10 hown hK hP hD hS 0 rfl rfl 26 (by decide) (hts _ w_837) (fun _ h9 => h9) rfl (tyX10_ok 26 (by decide)) rfl rfl (Nat.le_of_ble_eq_true rfl) dX10_gap_60 (fun H locs hP hD hS => ?_)
            have hP : va_P g.1 vwCl (zm_ws g h ad (zm_s M1 26 0)) H := hP
            have hD : va_D A (zm_ws g h ad (zm_s M1 26 0)) := hD
            refine lv_iload_n hx hb dX10_gap_63 rfl (lv_at hl 2 rfl) ?_
            refine lv_bipush (v := 47) hx hb dX10_gap_64 (by decide) ?_
            refine lv_icmp_ne (tgt := 76) hx hb dX10_gap_66 (by decide) (fun c_66 => ?_) (fun c_66 => ?_)
            · refine lv_aload_n hx hb dX10_gap_76 rfl (lv_at hl 1 rfl) ?_
              refine lv_aload_n hx hb dX10_gap_77 rfl (lv_at hl 1 rfl) ?_
              refine va_get (ci := 9) (v := .int (M1.1 27)) hx hb hts iX10 hown hK hP 0 rfl rfl 27 (by decide) (hts _ w_838) (fun _ h9 => h9) rfl dX10_gap_78 ?_
              refine za_ci (wc := zm_ws g h ad (zm_s M1 26 0)) (wr := []) C hP hD hS [0, 1, 2, 3, 4, 5, 6, 7, 8, 9, 10, 11, 12, 13, 14, 15, 16, 17] [] rfl rfl (by decide) (by decide) (za_runV C hP hD hS [0, 1, 2, 3, 4, 5, 6, 7, 8, 9, 10, 11, 12, 13, 14, 15, 16, 17] rfl (by decide) rfl (kX10_room l g E h ad (zm_s M1 26 0) (M1.1 27) ) w_989 mX10_room 0 rfl rfl rfl rfl hl.1 rfl (Nat.le_of_ble_eq_true rfl) dX10_gap_81 ⟨by decide, by decide⟩ ⟨by decide, by decide⟩) (fun r3 M3 H locs hM3 hP hD hS => ?_)
              obtain ⟨hr3, hM3⟩ := hM3
              have hP : va_P g.1 vwCl (zm_ws g h ad M3) H := hP
              have hD : va_D A (zm_ws g h ad M3) := hD
              refine lv_if_ne (tgt := 88) hx hb dX10_gap_84 (by decide) (fun c_84 => ?_) (fun c_84 => ?_)
              · refine lv_iload_n hx hb dX10_gap_88 rfl (lv_at hl 2 rfl) ?_
                refine za_ci (wc := []) (wr := zm_ws g h ad M3) C hP hD hS [] [0, 1, 2, 3, 4, 5, 6, 7, 8, 9, 10, 11, 12, 13, 14, 15, 16, 17] rfl rfl (by decide) (by decide) (za_runS C hP hD hS [] rfl (by decide) rfl (kX10_letter l g E  x ) w_993 mX10_letter rfl hl.1 rfl (Nat.le_of_ble_eq_true rfl) dX10_gap_89 ⟨by decide, by decide⟩ ⟨by decide, by decide⟩) (fun r4 _ H locs hr4 hP hD hS => ?_)
                have hP : va_P g.1 vwCl (zm_ws g h ad M3) H := hP
                have hD : va_D A (zm_ws g h ad M3) := hD
                refine lv_if_eq (tgt := 103) hx hb dX10_gap_92 (by decide) (fun c_92 => ?_) (fun c_92 => ?_)
                · refine lv_iload_n hx hb dX10_gap_103 rfl (lv_at hl 2 rfl) ?_
                  refine lv_bipush (v := 48) hx hb dX10_gap_104 (by decide) ?_
                  refine lv_icmp_ne (tgt := 117) hx hb dX10_gap_106 (by decide) (fun c_106 => ?_) (fun c_106 => ?_)
                  · refine lv_iload_n hx hb dX10_gap_117 rfl (lv_at hl 2 rfl) ?_
                    refine za_ci (wc := []) (wr := zm_ws g h ad M3) C hP hD hS [] [0, 1, 2, 3, 4, 5, 6, 7, 8, 9, 10, 11, 12, 13, 14, 15, 16, 17] rfl rfl (by decide) (by decide) (za_runS C hP hD hS [] rfl (by decide) rfl (kX10_digit l g E  x ) w_996 mX10_digit rfl hl.1 rfl (Nat.le_of_ble_eq_true rfl) dX10_gap_118 ⟨by decide, by decide⟩ ⟨by decide, by decide⟩) (fun r5 _ H locs hr5 hP hD hS => ?_)
                    have hP : va_P g.1 vwCl (zm_ws g h ad M3) H := hP
                    have hD : va_D A (zm_ws g h ad M3) := hD
                    refine lv_if_eq (tgt := 132) hx hb dX10_gap_121 (by decide) (fun c_121 => ?_) (fun c_121 => ?_)
                    · refine lv_iload_n hx hb dX10_gap_132 rfl (lv_at hl 2 rfl) ?_
                      refine lv_bipush (v := 46) hx hb dX10_gap_133 (by decide) ?_
                      refine lv_icmp_ne (tgt := 147) hx hb dX10_gap_135 (by decide) (fun c_135 => ?_) (fun c_135 => ?_)
                      · refine lv_iload_n hx hb dX10_gap_147 rfl (lv_at hl 2 rfl) ?_
                        refine lv_bipush (v := 34) hx hb dX10_gap_148 (by decide) ?_
                        refine lv_icmp_eq (tgt := 159) hx hb dX10_gap_150 (by decide) (fun c_150 => ?_) (fun c_150 => ?_)
                        · refine lv_aload_n hx hb dX10_gap_159 rfl (lv_at hl 1 rfl) ?_
                          refine lv_iload_n hx hb dX10_gap_160 rfl (lv_at hl 2 rfl) ?_
                          refine lv_bipush (v := 15) hx hb dX10_gap_161 (by decide) ?_
                          refine za_cv (wc := zm_ws g h ad M3) (wr := []) C hP hD hS [0, 1, 2, 3, 4, 5, 6, 7, 8, 9, 10, 11, 12, 13, 14, 15, 16, 17] [] rfl rfl (by decide) (by decide) (za_runV C hP hD hS [0, 1, 2, 3, 4, 5, 6, 7, 8, 9, 10, 11, 12, 13, 14, 15, 16, 17] rfl (by decide) rfl (kX10_opens l g E h ad M3 x 15 ) w_999 mX10_opens 0 rfl rfl rfl rfl hl.1 rfl (Nat.le_of_ble_eq_true rfl) dX10_gap_163 ⟨by decide, by decide⟩ ⟨by decide, by decide⟩) (fun M6 H locs hM6 hP hD hS => ?_)
                          have hP : va_P g.1 vwCl (zm_ws g h ad M6) H := hP
                          have hD : va_D A (zm_ws g h ad M6) := hD
                          refine lv_goto (tgt := 222) hx hb dX10_gap_166 (by decide) ?_
                          subst hM6
                          subst hr5
                          subst hr4
                          subst hM3
                          subst hr3
                          subst hM1
                          subst hv_31
                          exact zm_rv hQ hx hb hr hlocks hK hP hD hS (by simp [zm_gap, zq_upd, c_4, eq_true c_33, c_45, c_50, c_66, c_84, eq_true c_92, c_106, eq_true c_121, c_135, eq_true c_150]) dX10_gap_222
                        · refine lv_iload_n hx hb dX10_gap_153 rfl (lv_at hl 2 rfl) ?_
                          refine lv_bipush (v := 39) hx hb dX10_gap_154 (by decide) ?_
                          refine lv_icmp_ne (tgt := 169) hx hb dX10_gap_156 (by decide) (fun c_156 => ?_) (fun c_156 => ?_)
                          · refine lv_iload_n hx hb dX10_gap_169 rfl (lv_at hl 2 rfl) ?_
                            refine lv_bipush (v := 96) hx hb dX10_gap_170 (by decide) ?_
                            refine lv_icmp_ne (tgt := 185) hx hb dX10_gap_172 (by decide) (fun c_172 => ?_) (fun c_172 => ?_)
                            · refine lv_iload_n hx hb dX10_gap_185 rfl (lv_at hl 2 rfl) ?_
                              refine za_if_le (tgt := 218) hx hb dX10_gap_186 (by decide) (fun c_186 => ?_) (fun c_186 => ?_)
                              · refine lv_aload_n hx hb dX10_gap_218 rfl (lv_at hl 1 rfl) ?_
                                refine za_cv (wc := zm_ws g h ad M3) (wr := []) C hP hD hS [0, 1, 2, 3, 4, 5, 6, 7, 8, 9, 10, 11, 12, 13, 14, 15, 16, 17] [] rfl rfl (by decide) (by decide) (za_runV C hP hD hS [0, 1, 2, 3, 4, 5, 6, 7, 8, 9, 10, 11, 12, 13, 14, 15, 16, 17] rfl (by decide) rfl (kX10_error l g E h ad M3  ) w_1010 mX10_error 0 rfl rfl rfl rfl hl.1 rfl (Nat.le_of_ble_eq_true rfl) dX10_gap_219 ⟨by decide, by decide⟩ ⟨by decide, by decide⟩) (fun M7 H locs hM7 hP hD hS => ?_)
                                have hP : va_P g.1 vwCl (zm_ws g h ad M7) H := hP
                                have hD : va_D A (zm_ws g h ad M7) := hD
                                subst hM7
                                subst hr5
                                subst hr4
                                subst hM3
                                subst hr3
                                subst hM1
                                subst hv_31
                                exact zm_rv hQ hx hb hr hlocks hK hP hD hS (by simp [zm_gap, zq_upd, c_4, eq_true c_33, c_45, c_50, c_66, c_84, eq_true c_92, c_106, eq_true c_121, c_135, c_150, c_156, c_172, c_186]) dX10_gap_222
                              · refine lv_iload_n hx hb dX10_gap_189 rfl (lv_at hl 2 rfl) ?_
                                refine lv_sipush (v := 128) hx hb dX10_gap_190 (by decide) ?_
                                refine za_icmp_ge (tgt := 218) hx hb dX10_gap_193 (by decide) (fun c_193 => ?_) (fun c_193 => ?_)
                                · refine lv_aload_n hx hb dX10_gap_218 rfl (lv_at hl 1 rfl) ?_
                                  refine za_cv (wc := zm_ws g h ad M3) (wr := []) C hP hD hS [0, 1, 2, 3, 4, 5, 6, 7, 8, 9, 10, 11, 12, 13, 14, 15, 16, 17] [] rfl rfl (by decide) (by decide) (za_runV C hP hD hS [0, 1, 2, 3, 4, 5, 6, 7, 8, 9, 10, 11, 12, 13, 14, 15, 16, 17] rfl (by decide) rfl (kX10_error l g E h ad M3  ) w_1010 mX10_error 0 rfl rfl rfl rfl hl.1 rfl (Nat.le_of_ble_eq_true rfl) dX10_gap_219 ⟨by decide, by decide⟩ ⟨by decide, by decide⟩) (fun M8 H locs hM8 hP hD hS => ?_)
                                  have hP : va_P g.1 vwCl (zm_ws g h ad M8) H := hP
                                  have hD : va_D A (zm_ws g h ad M8) := hD
                                  subst hM8
                                  subst hr5
                                  subst hr4
                                  subst hM3
                                  subst hr3
                                  subst hM1
                                  subst hv_31
                                  exact zm_rv hQ hx hb hr hlocks hK hP hD hS (by simp [zm_gap, zq_upd, c_4, eq_true c_33, c_45, c_50, c_66, c_84, eq_true c_92, c_106, eq_true c_121, c_135, c_150, c_156, c_172, c_186, c_193]) dX10_gap_222
                                · refine lv_aload_n hx hb dX10_gap_196 rfl (lv_at hl 1 rfl) ?_
                                  refine lv_aload_n hx hb dX10_gap_197 rfl (lv_at hl 1 rfl) ?_
                                  refine va_get (ci := 9) (v := .int (M3.1 27)) hx hb hts iX10 hown hK hP 0 rfl rfl 27 (by decide) (hts _ w_838) (fun _ h9 => h9) rfl dX10_gap_198 ?_
                                  refine lv_iconst (v := 0) hx hb dX10_gap_201 (by decide) ?_
                                  refine lv_iload_n hx hb dX10_gap_202 rfl (lv_at hl 2 rfl) ?_
                                  refine za_ci (wc := zm_ws g h ad M3) (wr := []) C hP hD hS [0, 1, 2, 3, 4, 5, 6, 7, 8, 9, 10, 11, 12, 13, 14, 15, 16, 17] [] rfl rfl (by decide) (by decide) (za_runV C hP hD hS [0, 1, 2, 3, 4, 5, 6, 7, 8, 9, 10, 11, 12, 13, 14, 15, 16, 17] rfl (by decide) rfl (kX10_signOf l g E h ad M3 (M3.1 27) 0 x 0 rfl (by decide) (fun _ h9 => absurd h9 (Nat.not_lt_zero _))) w_1003 mX10_signOf 0 rfl rfl rfl rfl hl.1 rfl (Nat.le_of_ble_eq_true rfl) dX10_gap_203 ⟨by decide, by decide⟩ ⟨by decide, by decide⟩) (fun r9 _ H locs hr9 hP hD hS => ?_)
                                  have hP : va_P g.1 vwCl (zm_ws g h ad M3) H := hP
                                  have hD : va_D A (zm_ws g h ad M3) := hD
                                  refine lv_if_lt (tgt := 218) hx hb dX10_gap_206 (by decide) (fun c_206 => ?_) (fun c_206 => ?_)
                                  · refine lv_aload_n hx hb dX10_gap_218 rfl (lv_at hl 1 rfl) ?_
                                    refine za_cv (wc := zm_ws g h ad M3) (wr := []) C hP hD hS [0, 1, 2, 3, 4, 5, 6, 7, 8, 9, 10, 11, 12, 13, 14, 15, 16, 17] [] rfl rfl (by decide) (by decide) (za_runV C hP hD hS [0, 1, 2, 3, 4, 5, 6, 7, 8, 9, 10, 11, 12, 13, 14, 15, 16, 17] rfl (by decide) rfl (kX10_error l g E h ad M3  ) w_1010 mX10_error 0 rfl rfl rfl rfl hl.1 rfl (Nat.le_of_ble_eq_true rfl) dX10_gap_219 ⟨by decide, by decide⟩ ⟨by decide, by decide⟩) (fun M10 H locs hM10 hP hD hS => ?_)
                                    have hP : va_P g.1 vwCl (zm_ws g h ad M10) H := hP
                                    have hD : va_D A (zm_ws g h ad M10) := hD
                                    subst hM10
                                    subst hr9
                                    subst hr5
                                    subst hr4
                                    subst hM3
                                    subst hr3
                                    subst hM1
                                    subst hv_31
                                    exact zm_rv hQ hx hb hr hlocks hK hP hD hS (by simp [zm_gap, zq_upd, c_4, eq_true c_33, c_45, c_50, c_66, c_84, eq_true c_92, c_106, eq_true c_121, c_135, c_150, c_156, c_172, c_186, c_193, c_206]) dX10_gap_222
                                  · refine lv_aload_n hx hb dX10_gap_209 rfl (lv_at hl 1 rfl) ?_
                                    refine lv_bipush (v := 14) hx hb dX10_gap_210 (by decide) ?_
                                    refine va_put (ci := 9) (v := .int 14) hx hb hts iX10 tyX10 tyX10_ok nmX10 hown hK hP hD hS 0 rfl rfl 21 (by decide) (hts _ w_832) (fun _ h9 => h9) rfl (tyX10_ok 21 (by decide)) rfl rfl (Nat.le_of_ble_eq_true rfl) dX10_gap_212 (fun H locs hP hD hS => ?_)
                                    have hP : va_P g.1 vwCl (zm_ws g h ad (zm_s M3 21 14)) H := hP
                                    have hD : va_D A (zm_ws g h ad (zm_s M3 21 14)) := hD
                                    refine lv_goto (tgt := 222) hx hb dX10_gap_215 (by decide) ?_
                                    subst hr9
                                    subst hr5
                                    subst hr4
                                    subst hM3
                                    subst hr3
                                    subst hM1
                                    subst hv_31
                                    exact zm_rv hQ hx hb hr hlocks hK hP hD hS (by simp [zm_gap, zq_upd, c_4, eq_true c_33, c_45, c_50, c_66, c_84, eq_true c_92, c_106, eq_true c_121, c_135, c_150, c_156, c_172, c_186, c_193, c_206]) dX10_gap_222
                            · refine lv_aload_n hx hb dX10_gap_175 rfl (lv_at hl 1 rfl) ?_
                              refine lv_iload_n hx hb dX10_gap_176 rfl (lv_at hl 2 rfl) ?_
                              refine lv_bipush (v := 16) hx hb dX10_gap_177 (by decide) ?_
                              refine za_cv (wc := zm_ws g h ad M3) (wr := []) C hP hD hS [0, 1, 2, 3, 4, 5, 6, 7, 8, 9, 10, 11, 12, 13, 14, 15, 16, 17] [] rfl rfl (by decide) (by decide) (za_runV C hP hD hS [0, 1, 2, 3, 4, 5, 6, 7, 8, 9, 10, 11, 12, 13, 14, 15, 16, 17] rfl (by decide) rfl (kX10_opens l g E h ad M3 x 16 ) w_999 mX10_opens 0 rfl rfl rfl rfl hl.1 rfl (Nat.le_of_ble_eq_true rfl) dX10_gap_179 ⟨by decide, by decide⟩ ⟨by decide, by decide⟩) (fun M11 H locs hM11 hP hD hS => ?_)
                              have hP : va_P g.1 vwCl (zm_ws g h ad M11) H := hP
                              have hD : va_D A (zm_ws g h ad M11) := hD
                              refine lv_goto (tgt := 222) hx hb dX10_gap_182 (by decide) ?_
                              subst hM11
                              subst hr5
                              subst hr4
                              subst hM3
                              subst hr3
                              subst hM1
                              subst hv_31
                              exact zm_rv hQ hx hb hr hlocks hK hP hD hS (by simp [zm_gap, zq_upd, c_4, eq_true c_33, c_45, c_50, c_66, c_84, eq_true c_92, c_106, eq_true c_121, c_135, c_150, c_156, eq_true c_172]) dX10_gap_222
                          · refine lv_aload_n hx hb dX10_gap_159 rfl (lv_at hl 1 rfl) ?_
                            refine lv_iload_n hx hb dX10_gap_160 rfl (lv_at hl 2 rfl) ?_
                            refine lv_bipush (v := 15) hx hb dX10_gap_161 (by decide) ?_
                            refine za_cv (wc := zm_ws g h ad M3) (wr := []) C hP hD hS [0, 1, 2, 3, 4, 5, 6, 7, 8, 9, 10, 11, 12, 13, 14, 15, 16, 17] [] rfl rfl (by decide) (by decide) (za_runV C hP hD hS [0, 1, 2, 3, 4, 5, 6, 7, 8, 9, 10, 11, 12, 13, 14, 15, 16, 17] rfl (by decide) rfl (kX10_opens l g E h ad M3 x 15 ) w_999 mX10_opens 0 rfl rfl rfl rfl hl.1 rfl (Nat.le_of_ble_eq_true rfl) dX10_gap_163 ⟨by decide, by decide⟩ ⟨by decide, by decide⟩) (fun M12 H locs hM12 hP hD hS => ?_)
                            have hP : va_P g.1 vwCl (zm_ws g h ad M12) H := hP
                            have hD : va_D A (zm_ws g h ad M12) := hD
                            refine lv_goto (tgt := 222) hx hb dX10_gap_166 (by decide) ?_
                            subst hM12
                            subst hr5
                            subst hr4
                            subst hM3
                            subst hr3
                            subst hM1
                            subst hv_31
                            exact zm_rv hQ hx hb hr hlocks hK hP hD hS (by simp [zm_gap, zq_upd, c_4, eq_true c_33, c_45, c_50, c_66, c_84, eq_true c_92, c_106, eq_true c_121, c_135, c_150, eq_true c_156]) dX10_gap_222
                      · refine lv_aload_n hx hb dX10_gap_138 rfl (lv_at hl 1 rfl) ?_
                        refine lv_bipush (v := 12) hx hb dX10_gap_139 (by decide) ?_
                        refine va_put (ci := 9) (v := .int 12) hx hb hts iX10 tyX10 tyX10_ok nmX10 hown hK hP hD hS 0 rfl rfl 21 (by decide) (hts _ w_832) (fun _ h9 => h9) rfl (tyX10_ok 21 (by decide)) rfl rfl (Nat.le_of_ble_eq_true rfl) dX10_gap_141 (fun H locs hP hD hS => ?_)
                        have hP : va_P g.1 vwCl (zm_ws g h ad (zm_s M3 21 12)) H := hP
                        have hD : va_D A (zm_ws g h ad (zm_s M3 21 12)) := hD
                        refine lv_goto (tgt := 222) hx hb dX10_gap_144 (by decide) ?_
                        subst hr5
                        subst hr4
                        subst hM3
                        subst hr3
                        subst hM1
                        subst hv_31
                        exact zm_rv hQ hx hb hr hlocks hK hP hD hS (by simp [zm_gap, zq_upd, c_4, eq_true c_33, c_45, c_50, c_66, c_84, eq_true c_92, c_106, eq_true c_121, eq_true c_135]) dX10_gap_222
                    · refine lv_aload_n hx hb dX10_gap_124 rfl (lv_at hl 1 rfl) ?_
                      refine lv_iconst (v := 5) hx hb dX10_gap_125 (by decide) ?_
                      refine va_put (ci := 9) (v := .int 5) hx hb hts iX10 tyX10 tyX10_ok nmX10 hown hK hP hD hS 0 rfl rfl 21 (by decide) (hts _ w_832) (fun _ h9 => h9) rfl (tyX10_ok 21 (by decide)) rfl rfl (Nat.le_of_ble_eq_true rfl) dX10_gap_126 (fun H locs hP hD hS => ?_)
                      have hP : va_P g.1 vwCl (zm_ws g h ad (zm_s M3 21 5)) H := hP
                      have hD : va_D A (zm_ws g h ad (zm_s M3 21 5)) := hD
                      refine lv_goto (tgt := 222) hx hb dX10_gap_129 (by decide) ?_
                      subst hr5
                      subst hr4
                      subst hM3
                      subst hr3
                      subst hM1
                      subst hv_31
                      exact zm_rv hQ hx hb hr hlocks hK hP hD hS (by simp [zm_gap, zq_upd, c_4, eq_true c_33, c_45, c_50, c_66, c_84, eq_true c_92, c_106, c_121]) dX10_gap_222
                  · refine lv_aload_n hx hb dX10_gap_109 rfl (lv_at hl 1 rfl) ?_
                    refine lv_iconst (v := 2) hx hb dX10_gap_110 (by decide) ?_
                    refine va_put (ci := 9) (v := .int 2) hx hb hts iX10 tyX10 tyX10_ok nmX10 hown hK hP hD hS 0 rfl rfl 21 (by decide) (hts _ w_832) (fun _ h9 => h9) rfl (tyX10_ok 21 (by decide)) rfl rfl (Nat.le_of_ble_eq_true rfl) dX10_gap_111 (fun H locs hP hD hS => ?_)
                    have hP : va_P g.1 vwCl (zm_ws g h ad (zm_s M3 21 2)) H := hP
                    have hD : va_D A (zm_ws g h ad (zm_s M3 21 2)) := hD
                    refine lv_goto (tgt := 222) hx hb dX10_gap_114 (by decide) ?_
                    subst hr4
                    subst hM3
                    subst hr3
                    subst hM1
                    subst hv_31
                    exact zm_rv hQ hx hb hr hlocks hK hP hD hS (by simp [zm_gap, zq_upd, c_4, eq_true c_33, c_45, c_50, c_66, c_84, eq_true c_92, eq_true c_106]) dX10_gap_222
                · refine lv_aload_n hx hb dX10_gap_95 rfl (lv_at hl 1 rfl) ?_
                  refine lv_iconst (v := 1) hx hb dX10_gap_96 (by decide) ?_
                  refine va_put (ci := 9) (v := .int 1) hx hb hts iX10 tyX10 tyX10_ok nmX10 hown hK hP hD hS 0 rfl rfl 21 (by decide) (hts _ w_832) (fun _ h9 => h9) rfl (tyX10_ok 21 (by decide)) rfl rfl (Nat.le_of_ble_eq_true rfl) dX10_gap_97 (fun H locs hP hD hS => ?_)
                  have hP : va_P g.1 vwCl (zm_ws g h ad (zm_s M3 21 1)) H := hP
                  have hD : va_D A (zm_ws g h ad (zm_s M3 21 1)) := hD
                  refine lv_goto (tgt := 222) hx hb dX10_gap_100 (by decide) ?_
                  subst hr4
                  subst hM3
                  subst hr3
                  subst hM1
                  subst hv_31
                  exact zm_rv hQ hx hb hr hlocks hK hP hD hS (by simp [zm_gap, zq_upd, c_4, eq_true c_33, c_45, c_50, c_66, c_84, c_92]) dX10_gap_222
              · subst hM3
                subst hr3
                subst hM1
                subst hv_31
                exact zm_rv hQ hx hb hr hlocks hK hP hD hS (by simp [zm_gap, zq_upd, c_4, eq_true c_33, c_45, c_50, c_66, eq_true c_84]) dX10_gap_87
            · refine lv_aload_n hx hb dX10_gap_69 rfl (lv_at hl 1 rfl) ?_
              refine lv_bipush (v := 17) hx hb dX10_gap_70 (by decide) ?_
              refine va_put (ci := 9) (v := .int 17) hx hb hts iX10 tyX10 tyX10_ok nmX10 hown hK hP hD hS 0 rfl rfl 21 (by decide) (hts _ w_832) (fun _ h9 => h9) rfl (tyX10_ok 21 (by decide)) rfl rfl (Nat.le_of_ble_eq_true rfl) dX10_gap_72 (fun H locs hP hD hS => ?_)
              have hP : va_P g.1 vwCl (zm_ws g h ad (zm_s (zm_s M1 26 0) 21 17)) H := hP
              have hD : va_D A (zm_ws g h ad (zm_s (zm_s M1 26 0) 21 17)) := hD
              subst hM1
              subst hv_31
              exact zm_rv hQ hx hb hr hlocks hK hP hD hS (by simp [zm_gap, zq_upd, c_4, eq_true c_33, c_45, c_50, eq_true c_66]) dX10_gap_75
          · refine lv_aload_n hx hb dX10_gap_53 rfl (lv_at hl 1 rfl) ?_
            refine za_cv (wc := zm_ws g h ad M1) (wr := []) C hP hD hS [0, 1, 2, 3, 4, 5, 6, 7, 8, 9, 10, 11, 12, 13, 14, 15, 16, 17] [] rfl rfl (by decide) (by decide) (za_runV C hP hD hS [0, 1, 2, 3, 4, 5, 6, 7, 8, 9, 10, 11, 12, 13, 14, 15, 16, 17] rfl (by decide) rfl (kX10_semicolon l g E h ad M1  (hM1 ▸ hT)) w_981 mX10_semicolon 0 rfl rfl rfl rfl hl.1 rfl (Nat.le_of_ble_eq_true rfl) dX10_gap_54 ⟨by decide, by decide⟩ ⟨by decide, by decide⟩) (fun M13 H locs hM13 hP hD hS => ?_)
            have hP : va_P g.1 vwCl (zm_ws g h ad M13) H := hP
            have hD : va_D A (zm_ws g h ad M13) := hD
            subst hM13
            subst hM1
            subst hv_31
            exact zm_rv hQ hx hb hr hlocks hK hP hD hS (by simp [zm_gap, zq_upd, c_4, eq_true c_33, c_45, eq_true c_50]) dX10_gap_57
      · subst hv_31
        exact zm_rv hQ hx hb hr hlocks hK hP hD hS (by simp [zm_gap, zq_upd, c_4, c_33]) dX10_gap_36
    refine lv_iload_n hx hb dX10_gap_8 rfl (lv_at hl 1 rfl) ?_
    refine lv_bipush (v := 32) hx hb dX10_gap_9 (by decide) ?_
    refine lv_icmp_eq (tgt := 26) hx hb dX10_gap_11 (by decide) (fun c_11 => ?_) (fun c_11 => ?_)
    · refine lv_iconst (v := 1) hx hb dX10_gap_26 (by decide) ?_
      refine lv_goto (tgt := 31) hx hb dX10_gap_27 (by decide) ?_
      exact J_31 1 (by simp [zr_blank, c_4, eq_true c_11])
    · refine lv_iload_n hx hb dX10_gap_14 rfl (lv_at hl 1 rfl) ?_
      refine lv_bipush (v := 9) hx hb dX10_gap_15 (by decide) ?_
      refine lv_icmp_eq (tgt := 26) hx hb dX10_gap_17 (by decide) (fun c_17 => ?_) (fun c_17 => ?_)
      · refine lv_iconst (v := 1) hx hb dX10_gap_26 (by decide) ?_
        refine lv_goto (tgt := 31) hx hb dX10_gap_27 (by decide) ?_
        exact J_31 1 (by simp [zr_blank, c_4, c_11, eq_true c_17])
      · refine lv_iload_n hx hb dX10_gap_20 rfl (lv_at hl 1 rfl) ?_
        refine lv_bipush (v := 13) hx hb dX10_gap_21 (by decide) ?_
        refine lv_icmp_ne (tgt := 30) hx hb dX10_gap_23 (by decide) (fun c_23 => ?_) (fun c_23 => ?_)
        · refine lv_iconst (v := 0) hx hb dX10_gap_30 (by decide) ?_
          exact J_31 0 (by simp [zr_blank, c_4, c_11, c_17, c_23])
        · refine lv_iconst (v := 1) hx hb dX10_gap_26 (by decide) ?_
          refine lv_goto (tgt := 31) hx hb dX10_gap_27 (by decide) ?_
          exact J_31 1 (by simp [zr_blank, c_4, c_11, c_17, eq_true c_23])
  · exact zm_rv hQ hx hb hr hlocks hK hP hD hS (by simp [zm_gap, zq_upd, c_4]) dX10_gap_7
set_option maxHeartbeats 4000000 in
set_option maxRecDepth 100000 in
theorem kX10_sign (l : Launch) (g : za_G) (E : za_E) (h : Nat) (ad : Nat → Nat) (M : zm_M) (x : Int32) (k : Nat) (hT : zm_T M) (hn : M.1 27 - M.1 23 = nI k) (hk : k < 65536) (hq : ∀ j : Nat, j < k → vp_in (M.1 23 + nI j) 65536) : za_Cv l g E yX10_sign cX10_sign 2 6 0 0 [.ref h, .int x] (zm_ws g h ad M) (fun u : zm_M => u = zm_sign M x) (fun u => zm_ws g h ad u) := by
  refine za_begin (by decide) (Nat.le_of_ble_eq_true rfl) RX10 rfl ?_
  intro p e s m args below meth co A ls Q H locs C hQ hr hlocks hnm hS hP hD hl
  obtain ⟨hx, hb, hml, hown, hts, hK, hA, hE⟩ := id C
  have hl : lv_has ls 2 [(0, .ref h), (1, .int x)] := hl
  refine lv_iload_n hx hb dX10_sign_0 rfl (lv_at hl 1 rfl) ?_
  refine lv_iconst (v := (-1)) hx hb dX10_sign_1 (by decide) ?_
  refine lv_icmp_eq (tgt := 27) hx hb dX10_sign_2 (by decide) (fun c_2 => ?_) (fun c_2 => ?_)
  · refine lv_aload_n hx hb dX10_sign_27 rfl (lv_at hl 0 rfl) ?_
    refine lv_bipush (v := 40) hx hb dX10_sign_28 (by decide) ?_
    refine lv_aload_n hx hb dX10_sign_30 rfl (lv_at hl 0 rfl) ?_
    refine lv_aload_n hx hb dX10_sign_31 rfl (lv_at hl 0 rfl) ?_
    refine va_get (ci := 9) (v := .int (M.1 23)) hx hb hts iX10 hown hK hP 0 rfl rfl 23 (by decide) (hts _ w_834) (fun _ h9 => h9) rfl dX10_sign_32 ?_
    refine lv_aload_n hx hb dX10_sign_35 rfl (lv_at hl 0 rfl) ?_
    refine va_get (ci := 9) (v := .int (M.1 27)) hx hb hts iX10 hown hK hP 0 rfl rfl 27 (by decide) (hts _ w_838) (fun _ h9 => h9) rfl dX10_sign_36 ?_
    refine lv_aload_n hx hb dX10_sign_39 rfl (lv_at hl 0 rfl) ?_
    refine va_get (ci := 9) (v := .int (M.1 23)) hx hb hts iX10 hown hK hP 0 rfl rfl 23 (by decide) (hts _ w_834) (fun _ h9 => h9) rfl dX10_sign_40 ?_
    refine lv_isub hx hb dX10_sign_43 ?_
    refine lv_iconst (v := (-1)) hx hb dX10_sign_44 (by decide) ?_
    refine za_ci (wc := zm_ws g h ad M) (wr := []) C hP hD hS [0, 1, 2, 3, 4, 5, 6, 7, 8, 9, 10, 11, 12, 13, 14, 15, 16, 17] [] rfl rfl (by decide) (by decide) (za_runV C hP hD hS [0, 1, 2, 3, 4, 5, 6, 7, 8, 9, 10, 11, 12, 13, 14, 15, 16, 17] rfl (by decide) rfl (kX10_signOf l g E h ad M (M.1 23) ((M.1 27) - (M.1 23)) (-1) k hn hk hq) w_1003 mX10_signOf 0 rfl rfl rfl rfl hl.1 rfl (Nat.le_of_ble_eq_true rfl) dX10_sign_45 ⟨by decide, by decide⟩ ⟨by decide, by decide⟩) (fun r1 _ H locs hr1 hP hD hS => ?_)
    have hP : va_P g.1 vwCl (zm_ws g h ad M) H := hP
    have hD : va_D A (zm_ws g h ad M) := hD
    refine lv_iadd hx hb dX10_sign_48 ?_
    refine lv_aload_n hx hb dX10_sign_49 rfl (lv_at hl 0 rfl) ?_
    refine va_get (ci := 9) (v := .int (M.1 27)) hx hb hts iX10 hown hK hP 0 rfl rfl 27 (by decide) (hts _ w_838) (fun _ h9 => h9) rfl dX10_sign_50 ?_
    refine lv_aload_n hx hb dX10_sign_53 rfl (lv_at hl 0 rfl) ?_
    refine va_get (ci := 9) (v := .int (M.1 23)) hx hb hts iX10 hown hK hP 0 rfl rfl 23 (by decide) (hts _ w_834) (fun _ h9 => h9) rfl dX10_sign_54 ?_
    refine lv_isub hx hb dX10_sign_57 ?_
    refine lv_iconst (v := 0) hx hb dX10_sign_58 (by decide) ?_
    refine za_cv (wc := zm_ws g h ad M) (wr := []) C hP hD hS [0, 1, 2, 3, 4, 5, 6, 7, 8, 9, 10, 11, 12, 13, 14, 15, 16, 17] [] rfl rfl (by decide) (by decide) (za_runV C hP hD hS [0, 1, 2, 3, 4, 5, 6, 7, 8, 9, 10, 11, 12, 13, 14, 15, 16, 17] rfl (by decide) rfl (kX10_token l g E h ad M (40 + r1) ((M.1 27) - (M.1 23)) 0 hT) w_985 mX10_token 0 rfl rfl rfl rfl hl.1 rfl (Nat.le_of_ble_eq_true rfl) dX10_sign_59 ⟨by decide, by decide⟩ ⟨by decide, by decide⟩) (fun M2 H locs hM2 hP hD hS => ?_)
    have hP : va_P g.1 vwCl (zm_ws g h ad M2) H := hP
    have hD : va_D A (zm_ws g h ad M2) := hD
    refine lv_aload_n hx hb dX10_sign_62 rfl (lv_at hl 0 rfl) ?_
    refine lv_iconst (v := 0) hx hb dX10_sign_63 (by decide) ?_
    refine va_put (ci := 9) (v := .int 0) hx hb hts iX10 tyX10 tyX10_ok nmX10 hown hK hP hD hS 0 rfl rfl 21 (by decide) (hts _ w_832) (fun _ h9 => h9) rfl (tyX10_ok 21 (by decide)) rfl rfl (Nat.le_of_ble_eq_true rfl) dX10_sign_64 (fun H locs hP hD hS => ?_)
    have hP : va_P g.1 vwCl (zm_ws g h ad (zm_s M2 21 0)) H := hP
    have hD : va_D A (zm_ws g h ad (zm_s M2 21 0)) := hD
    refine lv_aload_n hx hb dX10_sign_67 rfl (lv_at hl 0 rfl) ?_
    refine lv_iload_n hx hb dX10_sign_68 rfl (lv_at hl 1 rfl) ?_
    refine za_cv (wc := zm_ws g h ad (zm_s M2 21 0)) (wr := []) C hP hD hS [0, 1, 2, 3, 4, 5, 6, 7, 8, 9, 10, 11, 12, 13, 14, 15, 16, 17] [] rfl rfl (by decide) (by decide) (za_runV C hP hD hS [0, 1, 2, 3, 4, 5, 6, 7, 8, 9, 10, 11, 12, 13, 14, 15, 16, 17] rfl (by decide) rfl (kX10_gap l g E h ad (zm_s M2 21 0) x (by rw [hM2]; exact zm_T_token hT)) w_973 mX10_gap 0 rfl rfl rfl rfl hl.1 rfl (Nat.le_of_ble_eq_true rfl) dX10_sign_69 ⟨by decide, by decide⟩ ⟨by decide, by decide⟩) (fun M3 H locs hM3 hP hD hS => ?_)
    have hP : va_P g.1 vwCl (zm_ws g h ad M3) H := hP
    have hD : va_D A (zm_ws g h ad M3) := hD
    subst hM3
    subst hM2
    subst hr1
    exact zm_rv hQ hx hb hr hlocks hK hP hD hS (by simp [zm_sign, zq_upd, eq_true c_2]) dX10_sign_72
  · refine lv_aload_n hx hb dX10_sign_5 rfl (lv_at hl 0 rfl) ?_
    refine lv_aload_n hx hb dX10_sign_6 rfl (lv_at hl 0 rfl) ?_
    refine va_get (ci := 9) (v := .int (M.1 23)) hx hb hts iX10 hown hK hP 0 rfl rfl 23 (by decide) (hts _ w_834) (fun _ h9 => h9) rfl dX10_sign_7 ?_
    refine lv_aload_n hx hb dX10_sign_10 rfl (lv_at hl 0 rfl) ?_
    refine va_get (ci := 9) (v := .int (M.1 27)) hx hb hts iX10 hown hK hP 0 rfl rfl 27 (by decide) (hts _ w_838) (fun _ h9 => h9) rfl dX10_sign_11 ?_
    refine lv_aload_n hx hb dX10_sign_14 rfl (lv_at hl 0 rfl) ?_
    refine va_get (ci := 9) (v := .int (M.1 23)) hx hb hts iX10 hown hK hP 0 rfl rfl 23 (by decide) (hts _ w_834) (fun _ h9 => h9) rfl dX10_sign_15 ?_
    refine lv_isub hx hb dX10_sign_18 ?_
    refine lv_iload_n hx hb dX10_sign_19 rfl (lv_at hl 1 rfl) ?_
    refine za_ci (wc := zm_ws g h ad M) (wr := []) C hP hD hS [0, 1, 2, 3, 4, 5, 6, 7, 8, 9, 10, 11, 12, 13, 14, 15, 16, 17] [] rfl rfl (by decide) (by decide) (za_runV C hP hD hS [0, 1, 2, 3, 4, 5, 6, 7, 8, 9, 10, 11, 12, 13, 14, 15, 16, 17] rfl (by decide) rfl (kX10_signOf l g E h ad M (M.1 23) ((M.1 27) - (M.1 23)) x k hn hk hq) w_1003 mX10_signOf 0 rfl rfl rfl rfl hl.1 rfl (Nat.le_of_ble_eq_true rfl) dX10_sign_20 ⟨by decide, by decide⟩ ⟨by decide, by decide⟩) (fun r4 _ H locs hr4 hP hD hS => ?_)
    have hP : va_P g.1 vwCl (zm_ws g h ad M) H := hP
    have hD : va_D A (zm_ws g h ad M) := hD
    refine lv_if_lt (tgt := 27) hx hb dX10_sign_23 (by decide) (fun c_23 => ?_) (fun c_23 => ?_)
    · refine lv_aload_n hx hb dX10_sign_27 rfl (lv_at hl 0 rfl) ?_
      refine lv_bipush (v := 40) hx hb dX10_sign_28 (by decide) ?_
      refine lv_aload_n hx hb dX10_sign_30 rfl (lv_at hl 0 rfl) ?_
      refine lv_aload_n hx hb dX10_sign_31 rfl (lv_at hl 0 rfl) ?_
      refine va_get (ci := 9) (v := .int (M.1 23)) hx hb hts iX10 hown hK hP 0 rfl rfl 23 (by decide) (hts _ w_834) (fun _ h9 => h9) rfl dX10_sign_32 ?_
      refine lv_aload_n hx hb dX10_sign_35 rfl (lv_at hl 0 rfl) ?_
      refine va_get (ci := 9) (v := .int (M.1 27)) hx hb hts iX10 hown hK hP 0 rfl rfl 27 (by decide) (hts _ w_838) (fun _ h9 => h9) rfl dX10_sign_36 ?_
      refine lv_aload_n hx hb dX10_sign_39 rfl (lv_at hl 0 rfl) ?_
      refine va_get (ci := 9) (v := .int (M.1 23)) hx hb hts iX10 hown hK hP 0 rfl rfl 23 (by decide) (hts _ w_834) (fun _ h9 => h9) rfl dX10_sign_40 ?_
      refine lv_isub hx hb dX10_sign_43 ?_
      refine lv_iconst (v := (-1)) hx hb dX10_sign_44 (by decide) ?_
      refine za_ci (wc := zm_ws g h ad M) (wr := []) C hP hD hS [0, 1, 2, 3, 4, 5, 6, 7, 8, 9, 10, 11, 12, 13, 14, 15, 16, 17] [] rfl rfl (by decide) (by decide) (za_runV C hP hD hS [0, 1, 2, 3, 4, 5, 6, 7, 8, 9, 10, 11, 12, 13, 14, 15, 16, 17] rfl (by decide) rfl (kX10_signOf l g E h ad M (M.1 23) ((M.1 27) - (M.1 23)) (-1) k hn hk hq) w_1003 mX10_signOf 0 rfl rfl rfl rfl hl.1 rfl (Nat.le_of_ble_eq_true rfl) dX10_sign_45 ⟨by decide, by decide⟩ ⟨by decide, by decide⟩) (fun r5 _ H locs hr5 hP hD hS => ?_)
      have hP : va_P g.1 vwCl (zm_ws g h ad M) H := hP
      have hD : va_D A (zm_ws g h ad M) := hD
      refine lv_iadd hx hb dX10_sign_48 ?_
      refine lv_aload_n hx hb dX10_sign_49 rfl (lv_at hl 0 rfl) ?_
      refine va_get (ci := 9) (v := .int (M.1 27)) hx hb hts iX10 hown hK hP 0 rfl rfl 27 (by decide) (hts _ w_838) (fun _ h9 => h9) rfl dX10_sign_50 ?_
      refine lv_aload_n hx hb dX10_sign_53 rfl (lv_at hl 0 rfl) ?_
      refine va_get (ci := 9) (v := .int (M.1 23)) hx hb hts iX10 hown hK hP 0 rfl rfl 23 (by decide) (hts _ w_834) (fun _ h9 => h9) rfl dX10_sign_54 ?_
      refine lv_isub hx hb dX10_sign_57 ?_
      refine lv_iconst (v := 0) hx hb dX10_sign_58 (by decide) ?_
      refine za_cv (wc := zm_ws g h ad M) (wr := []) C hP hD hS [0, 1, 2, 3, 4, 5, 6, 7, 8, 9, 10, 11, 12, 13, 14, 15, 16, 17] [] rfl rfl (by decide) (by decide) (za_runV C hP hD hS [0, 1, 2, 3, 4, 5, 6, 7, 8, 9, 10, 11, 12, 13, 14, 15, 16, 17] rfl (by decide) rfl (kX10_token l g E h ad M (40 + r5) ((M.1 27) - (M.1 23)) 0 hT) w_985 mX10_token 0 rfl rfl rfl rfl hl.1 rfl (Nat.le_of_ble_eq_true rfl) dX10_sign_59 ⟨by decide, by decide⟩ ⟨by decide, by decide⟩) (fun M6 H locs hM6 hP hD hS => ?_)
      have hP : va_P g.1 vwCl (zm_ws g h ad M6) H := hP
      have hD : va_D A (zm_ws g h ad M6) := hD
      refine lv_aload_n hx hb dX10_sign_62 rfl (lv_at hl 0 rfl) ?_
      refine lv_iconst (v := 0) hx hb dX10_sign_63 (by decide) ?_
      refine va_put (ci := 9) (v := .int 0) hx hb hts iX10 tyX10 tyX10_ok nmX10 hown hK hP hD hS 0 rfl rfl 21 (by decide) (hts _ w_832) (fun _ h9 => h9) rfl (tyX10_ok 21 (by decide)) rfl rfl (Nat.le_of_ble_eq_true rfl) dX10_sign_64 (fun H locs hP hD hS => ?_)
      have hP : va_P g.1 vwCl (zm_ws g h ad (zm_s M6 21 0)) H := hP
      have hD : va_D A (zm_ws g h ad (zm_s M6 21 0)) := hD
      refine lv_aload_n hx hb dX10_sign_67 rfl (lv_at hl 0 rfl) ?_
      refine lv_iload_n hx hb dX10_sign_68 rfl (lv_at hl 1 rfl) ?_
      refine za_cv (wc := zm_ws g h ad (zm_s M6 21 0)) (wr := []) C hP hD hS [0, 1, 2, 3, 4, 5, 6, 7, 8, 9, 10, 11, 12, 13, 14, 15, 16, 17] [] rfl rfl (by decide) (by decide) (za_runV C hP hD hS [0, 1, 2, 3, 4, 5, 6, 7, 8, 9, 10, 11, 12, 13, 14, 15, 16, 17] rfl (by decide) rfl (kX10_gap l g E h ad (zm_s M6 21 0) x (by rw [hM6]; exact zm_T_token hT)) w_973 mX10_gap 0 rfl rfl rfl rfl hl.1 rfl (Nat.le_of_ble_eq_true rfl) dX10_sign_69 ⟨by decide, by decide⟩ ⟨by decide, by decide⟩) (fun M7 H locs hM7 hP hD hS => ?_)
      have hP : va_P g.1 vwCl (zm_ws g h ad M7) H := hP
      have hD : va_D A (zm_ws g h ad M7) := hD
      subst hM7
      subst hM6
      subst hr5
      subst hr4
      exact zm_rv hQ hx hb hr hlocks hK hP hD hS (by simp [zm_sign, zq_upd, c_2, c_23]) dX10_sign_72
    · subst hr4
      exact zm_rv hQ hx hb hr hlocks hK hP hD hS (by simp [zm_sign, zq_upd, c_2, c_23]) dX10_sign_26
set_option maxHeartbeats 4000000 in
set_option maxRecDepth 100000 in
theorem kX10_dotsA (l : Launch) (g : za_G) (E : za_E) (h : Nat) (ad : Nat → Nat) (M : zm_M) (x : Int32) (hT : zm_T M) (h12 : M.1 21 = 12) : za_Cv l g E yX10_dots cX10_dots 2 6 0 0 [.ref h, .int x] (zm_ws g h ad M) (fun u : zm_M => u = zm_dotsA M x) (fun u => zm_ws g h ad u) := by
  refine za_begin (by decide) (Nat.le_of_ble_eq_true rfl) RX10 rfl ?_
  intro p e s m args below meth co A ls Q H locs C hQ hr hlocks hnm hS hP hD hl
  obtain ⟨hx, hb, hml, hown, hts, hK, hA, hE⟩ := id C
  have hl : lv_has ls 2 [(0, .ref h), (1, .int x)] := hl
  refine lv_aload_n hx hb dX10_dots_0 rfl (lv_at hl 0 rfl) ?_
  refine va_get (ci := 9) (v := .int (M.1 21)) hx hb hts iX10 hown hK hP 0 rfl rfl 21 (by decide) (hts _ w_832) (fun _ h9 => h9) rfl dX10_dots_1 ?_
  refine lv_bipush (v := 12) hx hb dX10_dots_4 (by decide) ?_
  refine lv_icmp_ne (tgt := 30) hx hb dX10_dots_6 (by decide) (fun c_6 => ?_) (fun c_6 => ?_)
  · exact absurd h12 c_6
  · refine lv_iload_n hx hb dX10_dots_9 rfl (lv_at hl 1 rfl) ?_
    refine za_ci (wc := []) (wr := zm_ws g h ad M) C hP hD hS [] [0, 1, 2, 3, 4, 5, 6, 7, 8, 9, 10, 11, 12, 13, 14, 15, 16, 17] rfl rfl (by decide) (by decide) (za_runS C hP hD hS [] rfl (by decide) rfl (kX10_digit l g E  x ) w_996 mX10_digit rfl hl.1 rfl (Nat.le_of_ble_eq_true rfl) dX10_dots_10 ⟨by decide, by decide⟩ ⟨by decide, by decide⟩) (fun r1 _ H locs hr1 hP hD hS => ?_)
    have hP : va_P g.1 vwCl (zm_ws g h ad M) H := hP
    have hD : va_D A (zm_ws g h ad M) := hD
    refine lv_if_eq (tgt := 30) hx hb dX10_dots_13 (by decide) (fun c_13 => ?_) (fun c_13 => ?_)
    · refine lv_aload_n hx hb dX10_dots_30 rfl (lv_at hl 0 rfl) ?_
      refine va_get (ci := 9) (v := .int (M.1 21)) hx hb hts iX10 hown hK hP 0 rfl rfl 21 (by decide) (hts _ w_832) (fun _ h9 => h9) rfl dX10_dots_31 ?_
      refine lv_bipush (v := 12) hx hb dX10_dots_34 (by decide) ?_
      refine lv_icmp_ne (tgt := 54) hx hb dX10_dots_36 (by decide) (fun c_36 => ?_) (fun c_36 => ?_)
      · exact absurd h12 c_36
      · refine lv_iload_n hx hb dX10_dots_39 rfl (lv_at hl 1 rfl) ?_
        refine lv_bipush (v := 46) hx hb dX10_dots_40 (by decide) ?_
        refine lv_icmp_ne (tgt := 54) hx hb dX10_dots_42 (by decide) (fun c_42 => ?_) (fun c_42 => ?_)
        · refine lv_aload_n hx hb dX10_dots_54 rfl (lv_at hl 0 rfl) ?_
          refine va_get (ci := 9) (v := .int (M.1 21)) hx hb hts iX10 hown hK hP 0 rfl rfl 21 (by decide) (hts _ w_832) (fun _ h9 => h9) rfl dX10_dots_55 ?_
          refine lv_bipush (v := 12) hx hb dX10_dots_58 (by decide) ?_
          refine lv_icmp_ne (tgt := 84) hx hb dX10_dots_60 (by decide) (fun c_60 => ?_) (fun c_60 => ?_)
          · exact absurd h12 c_60
          · refine lv_aload_n hx hb dX10_dots_63 rfl (lv_at hl 0 rfl) ?_
            refine lv_bipush (v := 86) hx hb dX10_dots_64 (by decide) ?_
            refine lv_iconst (v := 1) hx hb dX10_dots_66 (by decide) ?_
            refine lv_iconst (v := 0) hx hb dX10_dots_67 (by decide) ?_
            refine za_cv (wc := zm_ws g h ad M) (wr := []) C hP hD hS [0, 1, 2, 3, 4, 5, 6, 7, 8, 9, 10, 11, 12, 13, 14, 15, 16, 17] [] rfl rfl (by decide) (by decide) (za_runV C hP hD hS [0, 1, 2, 3, 4, 5, 6, 7, 8, 9, 10, 11, 12, 13, 14, 15, 16, 17] rfl (by decide) rfl (kX10_token l g E h ad M 86 1 0 hT) w_985 mX10_token 0 rfl rfl rfl rfl hl.1 rfl (Nat.le_of_ble_eq_true rfl) dX10_dots_68 ⟨by decide, by decide⟩ ⟨by decide, by decide⟩) (fun M2 H locs hM2 hP hD hS => ?_)
            have hP : va_P g.1 vwCl (zm_ws g h ad M2) H := hP
            have hD : va_D A (zm_ws g h ad M2) := hD
            refine lv_aload_n hx hb dX10_dots_71 rfl (lv_at hl 0 rfl) ?_
            refine lv_iconst (v := 0) hx hb dX10_dots_72 (by decide) ?_
            refine va_put (ci := 9) (v := .int 0) hx hb hts iX10 tyX10 tyX10_ok nmX10 hown hK hP hD hS 0 rfl rfl 21 (by decide) (hts _ w_832) (fun _ h9 => h9) rfl (tyX10_ok 21 (by decide)) rfl rfl (Nat.le_of_ble_eq_true rfl) dX10_dots_73 (fun H locs hP hD hS => ?_)
            have hP : va_P g.1 vwCl (zm_ws g h ad (zm_s M2 21 0)) H := hP
            have hD : va_D A (zm_ws g h ad (zm_s M2 21 0)) := hD
            refine lv_aload_n hx hb dX10_dots_76 rfl (lv_at hl 0 rfl) ?_
            refine lv_iload_n hx hb dX10_dots_77 rfl (lv_at hl 1 rfl) ?_
            refine za_cv (wc := zm_ws g h ad (zm_s M2 21 0)) (wr := []) C hP hD hS [0, 1, 2, 3, 4, 5, 6, 7, 8, 9, 10, 11, 12, 13, 14, 15, 16, 17] [] rfl rfl (by decide) (by decide) (za_runV C hP hD hS [0, 1, 2, 3, 4, 5, 6, 7, 8, 9, 10, 11, 12, 13, 14, 15, 16, 17] rfl (by decide) rfl (kX10_gap l g E h ad (zm_s M2 21 0) x (by rw [hM2]; exact zm_T_token hT)) w_973 mX10_gap 0 rfl rfl rfl rfl hl.1 rfl (Nat.le_of_ble_eq_true rfl) dX10_dots_78 ⟨by decide, by decide⟩ ⟨by decide, by decide⟩) (fun M3 H locs hM3 hP hD hS => ?_)
            have hP : va_P g.1 vwCl (zm_ws g h ad M3) H := hP
            have hD : va_D A (zm_ws g h ad M3) := hD
            refine lv_goto (tgt := 165) hx hb dX10_dots_81 (by decide) ?_
            subst hM3
            subst hM2
            subst hr1
            exact zm_rv hQ hx hb hr hlocks hK hP hD hS (by simp [zm_dotsA, zq_upd, eq_true h12, eq_true c_6, eq_true c_13, eq_true c_36, c_42, eq_true c_60]) dX10_dots_165
        · refine lv_aload_n hx hb dX10_dots_45 rfl (lv_at hl 0 rfl) ?_
          refine lv_bipush (v := 13) hx hb dX10_dots_46 (by decide) ?_
          refine va_put (ci := 9) (v := .int 13) hx hb hts iX10 tyX10 tyX10_ok nmX10 hown hK hP hD hS 0 rfl rfl 21 (by decide) (hts _ w_832) (fun _ h9 => h9) rfl (tyX10_ok 21 (by decide)) rfl rfl (Nat.le_of_ble_eq_true rfl) dX10_dots_48 (fun H locs hP hD hS => ?_)
          have hP : va_P g.1 vwCl (zm_ws g h ad (zm_s M 21 13)) H := hP
          have hD : va_D A (zm_ws g h ad (zm_s M 21 13)) := hD
          refine lv_goto (tgt := 165) hx hb dX10_dots_51 (by decide) ?_
          subst hr1
          exact zm_rv hQ hx hb hr hlocks hK hP hD hS (by simp [zm_dotsA, zq_upd, eq_true h12, eq_true c_6, eq_true c_13, eq_true c_36, eq_true c_42]) dX10_dots_165
    · refine lv_aload_n hx hb dX10_dots_16 rfl (lv_at hl 0 rfl) ?_
      refine lv_bipush (v := 7) hx hb dX10_dots_17 (by decide) ?_
      refine va_put (ci := 9) (v := .int 7) hx hb hts iX10 tyX10 tyX10_ok nmX10 hown hK hP hD hS 0 rfl rfl 21 (by decide) (hts _ w_832) (fun _ h9 => h9) rfl (tyX10_ok 21 (by decide)) rfl rfl (Nat.le_of_ble_eq_true rfl) dX10_dots_19 (fun H locs hP hD hS => ?_)
      have hP : va_P g.1 vwCl (zm_ws g h ad (zm_s M 21 7)) H := hP
      have hD : va_D A (zm_ws g h ad (zm_s M 21 7)) := hD
      refine lv_aload_n hx hb dX10_dots_22 rfl (lv_at hl 0 rfl) ?_
      refine lv_iconst (v := 0) hx hb dX10_dots_23 (by decide) ?_
      refine va_put (ci := 9) (v := .int 0) hx hb hts iX10 tyX10 tyX10_ok nmX10 hown hK hP hD hS 0 rfl rfl 26 (by decide) (hts _ w_837) (fun _ h9 => h9) rfl (tyX10_ok 26 (by decide)) rfl rfl (Nat.le_of_ble_eq_true rfl) dX10_dots_24 (fun H locs hP hD hS => ?_)
      have hP : va_P g.1 vwCl (zm_ws g h ad (zm_s (zm_s M 21 7) 26 0)) H := hP
      have hD : va_D A (zm_ws g h ad (zm_s (zm_s M 21 7) 26 0)) := hD
      refine lv_goto (tgt := 165) hx hb dX10_dots_27 (by decide) ?_
      subst hr1
      exact zm_rv hQ hx hb hr hlocks hK hP hD hS (by simp [zm_dotsA, zq_upd, eq_true h12, eq_true c_6, c_13]) dX10_dots_165
set_option maxHeartbeats 4000000 in
set_option maxRecDepth 100000 in
theorem kX10_dots (l : Launch) (g : za_G) (E : za_E) (h : Nat) (ad : Nat → Nat) (M : zm_M) (x : Int32) (hT : zm_T M) : za_Cv l g E yX10_dots cX10_dots 2 7 0 0 [.ref h, .int x] (zm_ws g h ad M) (fun u : zm_M => u = zm_dots M x) (fun u => zm_ws g h ad u) := by
  refine za_begin (by decide) (Nat.le_of_ble_eq_true rfl) RX10 rfl ?_
  intro p e s m args below meth co A ls Q H locs C hQ hr hlocks hnm hS hP hD hl
  obtain ⟨hx, hb, hml, hown, hts, hK, hA, hE⟩ := id C
  have hl : lv_has ls 2 [(0, .ref h), (1, .int x)] := hl
  refine lv_aload_n hx hb dX10_dots_0 rfl (lv_at hl 0 rfl) ?_
  refine va_get (ci := 9) (v := .int (M.1 21)) hx hb hts iX10 hown hK hP 0 rfl rfl 21 (by decide) (hts _ w_832) (fun _ h9 => h9) rfl dX10_dots_1 ?_
  refine lv_bipush (v := 12) hx hb dX10_dots_4 (by decide) ?_
  refine lv_icmp_ne (tgt := 30) hx hb dX10_dots_6 (by decide) (fun c_6 => ?_) (fun c_6 => ?_)
  · refine lv_aload_n hx hb dX10_dots_30 rfl (lv_at hl 0 rfl) ?_
    refine va_get (ci := 9) (v := .int (M.1 21)) hx hb hts iX10 hown hK hP 0 rfl rfl 21 (by decide) (hts _ w_832) (fun _ h9 => h9) rfl dX10_dots_31 ?_
    refine lv_bipush (v := 12) hx hb dX10_dots_34 (by decide) ?_
    refine lv_icmp_ne (tgt := 54) hx hb dX10_dots_36 (by decide) (fun c_36 => ?_) (fun c_36 => ?_)
    · refine lv_aload_n hx hb dX10_dots_54 rfl (lv_at hl 0 rfl) ?_
      refine va_get (ci := 9) (v := .int (M.1 21)) hx hb hts iX10 hown hK hP 0 rfl rfl 21 (by decide) (hts _ w_832) (fun _ h9 => h9) rfl dX10_dots_55 ?_
      refine lv_bipush (v := 12) hx hb dX10_dots_58 (by decide) ?_
      refine lv_icmp_ne (tgt := 84) hx hb dX10_dots_60 (by decide) (fun c_60 => ?_) (fun c_60 => ?_)
      · refine lv_iload_n hx hb dX10_dots_84 rfl (lv_at hl 1 rfl) ?_
        refine lv_bipush (v := 46) hx hb dX10_dots_85 (by decide) ?_
        refine lv_icmp_ne (tgt := 126) hx hb dX10_dots_87 (by decide) (fun c_87 => ?_) (fun c_87 => ?_)
        · refine lv_aload_n hx hb dX10_dots_126 rfl (lv_at hl 0 rfl) ?_
          refine lv_bipush (v := 86) hx hb dX10_dots_127 (by decide) ?_
          refine lv_iconst (v := 1) hx hb dX10_dots_129 (by decide) ?_
          refine lv_iconst (v := 0) hx hb dX10_dots_130 (by decide) ?_
          refine za_cv (wc := zm_ws g h ad M) (wr := []) C hP hD hS [0, 1, 2, 3, 4, 5, 6, 7, 8, 9, 10, 11, 12, 13, 14, 15, 16, 17] [] rfl rfl (by decide) (by decide) (za_runV C hP hD hS [0, 1, 2, 3, 4, 5, 6, 7, 8, 9, 10, 11, 12, 13, 14, 15, 16, 17] rfl (by decide) rfl (kX10_token l g E h ad M 86 1 0 hT) w_985 mX10_token 0 rfl rfl rfl rfl hl.1 rfl (Nat.le_of_ble_eq_true rfl) dX10_dots_131 ⟨by decide, by decide⟩ ⟨by decide, by decide⟩) (fun M1 H locs hM1 hP hD hS => ?_)
          have hP : va_P g.1 vwCl (zm_ws g h ad M1) H := hP
          have hD : va_D A (zm_ws g h ad M1) := hD
          refine lv_aload_n hx hb dX10_dots_134 rfl (lv_at hl 0 rfl) ?_
          refine lv_dup hx hb dX10_dots_135 rfl ?_
          refine va_get (ci := 9) (v := .int (M1.1 23)) hx hb hts iX10 hown hK hP 0 rfl rfl 23 (by decide) (hts _ w_834) (fun _ h9 => h9) rfl dX10_dots_136 ?_
          refine lv_iconst (v := 1) hx hb dX10_dots_139 (by decide) ?_
          refine lv_iadd hx hb dX10_dots_140 ?_
          refine va_put (ci := 9) (v := .int ((M1.1 23) + 1)) hx hb hts iX10 tyX10 tyX10_ok nmX10 hown hK hP hD hS 0 rfl rfl 23 (by decide) (hts _ w_834) (fun _ h9 => h9) rfl (tyX10_ok 23 (by decide)) rfl rfl (Nat.le_of_ble_eq_true rfl) dX10_dots_141 (fun H locs hP hD hS => ?_)
          have hP : va_P g.1 vwCl (zm_ws g h ad (zm_s M1 23 ((M1.1 23) + 1))) H := hP
          have hD : va_D A (zm_ws g h ad (zm_s M1 23 ((M1.1 23) + 1))) := hD
          refine lv_aload_n hx hb dX10_dots_144 rfl (lv_at hl 0 rfl) ?_
          refine lv_dup hx hb dX10_dots_145 rfl ?_
          refine va_get (ci := 9) (v := .int (M1.1 25)) hx hb hts iX10 hown hK hP 0 rfl rfl 25 (by decide) (hts _ w_836) (fun _ h9 => h9) rfl dX10_dots_146 ?_
          refine lv_iconst (v := 1) hx hb dX10_dots_149 (by decide) ?_
          refine lv_iadd hx hb dX10_dots_150 ?_
          refine va_put (ci := 9) (v := .int ((M1.1 25) + 1)) hx hb hts iX10 tyX10 tyX10_ok nmX10 hown hK hP hD hS 0 rfl rfl 25 (by decide) (hts _ w_836) (fun _ h9 => h9) rfl (tyX10_ok 25 (by decide)) rfl rfl (Nat.le_of_ble_eq_true rfl) dX10_dots_151 (fun H locs hP hD hS => ?_)
          have hP : va_P g.1 vwCl (zm_ws g h ad (zm_s (zm_s M1 23 ((M1.1 23) + 1)) 25 ((M1.1 25) + 1))) H := hP
          have hD : va_D A (zm_ws g h ad (zm_s (zm_s M1 23 ((M1.1 23) + 1)) 25 ((M1.1 25) + 1))) := hD
          refine lv_aload_n hx hb dX10_dots_154 rfl (lv_at hl 0 rfl) ?_
          refine lv_bipush (v := 12) hx hb dX10_dots_155 (by decide) ?_
          refine va_put (ci := 9) (v := .int 12) hx hb hts iX10 tyX10 tyX10_ok nmX10 hown hK hP hD hS 0 rfl rfl 21 (by decide) (hts _ w_832) (fun _ h9 => h9) rfl (tyX10_ok 21 (by decide)) rfl rfl (Nat.le_of_ble_eq_true rfl) dX10_dots_157 (fun H locs hP hD hS => ?_)
          have hP : va_P g.1 vwCl (zm_ws g h ad (zm_s (zm_s (zm_s M1 23 ((M1.1 23) + 1)) 25 ((M1.1 25) + 1)) 21 12)) H := hP
          have hD : va_D A (zm_ws g h ad (zm_s (zm_s (zm_s M1 23 ((M1.1 23) + 1)) 25 ((M1.1 25) + 1)) 21 12)) := hD
          refine lv_aload_n hx hb dX10_dots_160 rfl (lv_at hl 0 rfl) ?_
          refine lv_iload_n hx hb dX10_dots_161 rfl (lv_at hl 1 rfl) ?_
          refine za_cv (wc := zm_ws g h ad (zm_s (zm_s (zm_s M1 23 ((M1.1 23) + 1)) 25 ((M1.1 25) + 1)) 21 12)) (wr := []) C hP hD hS [0, 1, 2, 3, 4, 5, 6, 7, 8, 9, 10, 11, 12, 13, 14, 15, 16, 17] [] rfl rfl (by decide) (by decide) (za_runV C hP hD hS [0, 1, 2, 3, 4, 5, 6, 7, 8, 9, 10, 11, 12, 13, 14, 15, 16, 17] rfl (by decide) rfl (kX10_dotsA l g E h ad (zm_s (zm_s (zm_s M1 23 ((M1.1 23) + 1)) 25 ((M1.1 25) + 1)) 21 12) x (by rw [hM1]; exact zm_T_token hT) rfl) w_1054 mX10_dots 0 rfl rfl rfl rfl hl.1 rfl (Nat.le_of_ble_eq_true rfl) dX10_dots_162 ⟨by decide, by decide⟩ ⟨by decide, by decide⟩) (fun M2 H locs hM2 hP hD hS => ?_)
          have hP : va_P g.1 vwCl (zm_ws g h ad M2) H := hP
          have hD : va_D A (zm_ws g h ad M2) := hD
          subst hM2
          subst hM1
          exact zm_rv hQ hx hb hr hlocks hK hP hD hS (by simp [zm_dots, zm_dotsA, zq_upd, c_6, c_36, c_60, c_87]) dX10_dots_165
        · refine lv_aload_n hx hb dX10_dots_90 rfl (lv_at hl 0 rfl) ?_
          refine lv_dup hx hb dX10_dots_91 rfl ?_
          refine va_get (ci := 9) (v := .int (M.1 27)) hx hb hts iX10 hown hK hP 0 rfl rfl 27 (by decide) (hts _ w_838) (fun _ h9 => h9) rfl dX10_dots_92 ?_
          refine lv_iconst (v := 1) hx hb dX10_dots_95 (by decide) ?_
          refine lv_iadd hx hb dX10_dots_96 ?_
          refine va_put (ci := 9) (v := .int ((M.1 27) + 1)) hx hb hts iX10 tyX10 tyX10_ok nmX10 hown hK hP hD hS 0 rfl rfl 27 (by decide) (hts _ w_838) (fun _ h9 => h9) rfl (tyX10_ok 27 (by decide)) rfl rfl (Nat.le_of_ble_eq_true rfl) dX10_dots_97 (fun H locs hP hD hS => ?_)
          have hP : va_P g.1 vwCl (zm_ws g h ad (zm_s M 27 ((M.1 27) + 1))) H := hP
          have hD : va_D A (zm_ws g h ad (zm_s M 27 ((M.1 27) + 1))) := hD
          refine lv_aload_n hx hb dX10_dots_100 rfl (lv_at hl 0 rfl) ?_
          refine lv_bipush (v := 77) hx hb dX10_dots_101 (by decide) ?_
          refine lv_iconst (v := 3) hx hb dX10_dots_103 (by decide) ?_
          refine lv_iconst (v := 0) hx hb dX10_dots_104 (by decide) ?_
          refine za_cv (wc := zm_ws g h ad (zm_s M 27 ((M.1 27) + 1))) (wr := []) C hP hD hS [0, 1, 2, 3, 4, 5, 6, 7, 8, 9, 10, 11, 12, 13, 14, 15, 16, 17] [] rfl rfl (by decide) (by decide) (za_runV C hP hD hS [0, 1, 2, 3, 4, 5, 6, 7, 8, 9, 10, 11, 12, 13, 14, 15, 16, 17] rfl (by decide) rfl (kX10_token l g E h ad (zm_s M 27 ((M.1 27) + 1)) 77 3 0 hT) w_985 mX10_token 0 rfl rfl rfl rfl hl.1 rfl (Nat.le_of_ble_eq_true rfl) dX10_dots_105 ⟨by decide, by decide⟩ ⟨by decide, by decide⟩) (fun M3 H locs hM3 hP hD hS => ?_)
          have hP : va_P g.1 vwCl (zm_ws g h ad M3) H := hP
          have hD : va_D A (zm_ws g h ad M3) := hD
          refine lv_aload_n hx hb dX10_dots_108 rfl (lv_at hl 0 rfl) ?_
          refine lv_dup hx hb dX10_dots_109 rfl ?_
          refine va_get (ci := 9) (v := .int (M3.1 27)) hx hb hts iX10 hown hK hP 0 rfl rfl 27 (by decide) (hts _ w_838) (fun _ h9 => h9) rfl dX10_dots_110 ?_
          refine lv_iconst (v := 1) hx hb dX10_dots_113 (by decide) ?_
          refine lv_isub hx hb dX10_dots_114 ?_
          refine va_put (ci := 9) (v := .int ((M3.1 27) - 1)) hx hb hts iX10 tyX10 tyX10_ok nmX10 hown hK hP hD hS 0 rfl rfl 27 (by decide) (hts _ w_838) (fun _ h9 => h9) rfl (tyX10_ok 27 (by decide)) rfl rfl (Nat.le_of_ble_eq_true rfl) dX10_dots_115 (fun H locs hP hD hS => ?_)
          have hP : va_P g.1 vwCl (zm_ws g h ad (zm_s M3 27 ((M3.1 27) - 1))) H := hP
          have hD : va_D A (zm_ws g h ad (zm_s M3 27 ((M3.1 27) - 1))) := hD
          refine lv_aload_n hx hb dX10_dots_118 rfl (lv_at hl 0 rfl) ?_
          refine lv_iconst (v := 0) hx hb dX10_dots_119 (by decide) ?_
          refine va_put (ci := 9) (v := .int 0) hx hb hts iX10 tyX10 tyX10_ok nmX10 hown hK hP hD hS 0 rfl rfl 21 (by decide) (hts _ w_832) (fun _ h9 => h9) rfl (tyX10_ok 21 (by decide)) rfl rfl (Nat.le_of_ble_eq_true rfl) dX10_dots_120 (fun H locs hP hD hS => ?_)
          have hP : va_P g.1 vwCl (zm_ws g h ad (zm_s (zm_s M3 27 ((M3.1 27) - 1)) 21 0)) H := hP
          have hD : va_D A (zm_ws g h ad (zm_s (zm_s M3 27 ((M3.1 27) - 1)) 21 0)) := hD
          refine lv_goto (tgt := 165) hx hb dX10_dots_123 (by decide) ?_
          subst hM3
          exact zm_rv hQ hx hb hr hlocks hK hP hD hS (by simp [zm_dots, zm_dotsA, zq_upd, c_6, c_36, c_60, eq_true c_87]) dX10_dots_165
      · exact absurd c_60 c_6
    · exact absurd c_36 c_6
  · refine lv_iload_n hx hb dX10_dots_9 rfl (lv_at hl 1 rfl) ?_
    refine za_ci (wc := []) (wr := zm_ws g h ad M) C hP hD hS [] [0, 1, 2, 3, 4, 5, 6, 7, 8, 9, 10, 11, 12, 13, 14, 15, 16, 17] rfl rfl (by decide) (by decide) (za_runS C hP hD hS [] rfl (by decide) rfl (kX10_digit l g E  x ) w_996 mX10_digit rfl hl.1 rfl (Nat.le_of_ble_eq_true rfl) dX10_dots_10 ⟨by decide, by decide⟩ ⟨by decide, by decide⟩) (fun r4 _ H locs hr4 hP hD hS => ?_)
    have hP : va_P g.1 vwCl (zm_ws g h ad M) H := hP
    have hD : va_D A (zm_ws g h ad M) := hD
    refine lv_if_eq (tgt := 30) hx hb dX10_dots_13 (by decide) (fun c_13 => ?_) (fun c_13 => ?_)
    · refine lv_aload_n hx hb dX10_dots_30 rfl (lv_at hl 0 rfl) ?_
      refine va_get (ci := 9) (v := .int (M.1 21)) hx hb hts iX10 hown hK hP 0 rfl rfl 21 (by decide) (hts _ w_832) (fun _ h9 => h9) rfl dX10_dots_31 ?_
      refine lv_bipush (v := 12) hx hb dX10_dots_34 (by decide) ?_
      refine lv_icmp_ne (tgt := 54) hx hb dX10_dots_36 (by decide) (fun c_36 => ?_) (fun c_36 => ?_)
      · exact absurd c_6 c_36
      · refine lv_iload_n hx hb dX10_dots_39 rfl (lv_at hl 1 rfl) ?_
        refine lv_bipush (v := 46) hx hb dX10_dots_40 (by decide) ?_
        refine lv_icmp_ne (tgt := 54) hx hb dX10_dots_42 (by decide) (fun c_42 => ?_) (fun c_42 => ?_)
        · refine lv_aload_n hx hb dX10_dots_54 rfl (lv_at hl 0 rfl) ?_
          refine va_get (ci := 9) (v := .int (M.1 21)) hx hb hts iX10 hown hK hP 0 rfl rfl 21 (by decide) (hts _ w_832) (fun _ h9 => h9) rfl dX10_dots_55 ?_
          refine lv_bipush (v := 12) hx hb dX10_dots_58 (by decide) ?_
          refine lv_icmp_ne (tgt := 84) hx hb dX10_dots_60 (by decide) (fun c_60 => ?_) (fun c_60 => ?_)
          · exact absurd c_6 c_60
          · refine lv_aload_n hx hb dX10_dots_63 rfl (lv_at hl 0 rfl) ?_
            refine lv_bipush (v := 86) hx hb dX10_dots_64 (by decide) ?_
            refine lv_iconst (v := 1) hx hb dX10_dots_66 (by decide) ?_
            refine lv_iconst (v := 0) hx hb dX10_dots_67 (by decide) ?_
            refine za_cv (wc := zm_ws g h ad M) (wr := []) C hP hD hS [0, 1, 2, 3, 4, 5, 6, 7, 8, 9, 10, 11, 12, 13, 14, 15, 16, 17] [] rfl rfl (by decide) (by decide) (za_runV C hP hD hS [0, 1, 2, 3, 4, 5, 6, 7, 8, 9, 10, 11, 12, 13, 14, 15, 16, 17] rfl (by decide) rfl (kX10_token l g E h ad M 86 1 0 hT) w_985 mX10_token 0 rfl rfl rfl rfl hl.1 rfl (Nat.le_of_ble_eq_true rfl) dX10_dots_68 ⟨by decide, by decide⟩ ⟨by decide, by decide⟩) (fun M5 H locs hM5 hP hD hS => ?_)
            have hP : va_P g.1 vwCl (zm_ws g h ad M5) H := hP
            have hD : va_D A (zm_ws g h ad M5) := hD
            refine lv_aload_n hx hb dX10_dots_71 rfl (lv_at hl 0 rfl) ?_
            refine lv_iconst (v := 0) hx hb dX10_dots_72 (by decide) ?_
            refine va_put (ci := 9) (v := .int 0) hx hb hts iX10 tyX10 tyX10_ok nmX10 hown hK hP hD hS 0 rfl rfl 21 (by decide) (hts _ w_832) (fun _ h9 => h9) rfl (tyX10_ok 21 (by decide)) rfl rfl (Nat.le_of_ble_eq_true rfl) dX10_dots_73 (fun H locs hP hD hS => ?_)
            have hP : va_P g.1 vwCl (zm_ws g h ad (zm_s M5 21 0)) H := hP
            have hD : va_D A (zm_ws g h ad (zm_s M5 21 0)) := hD
            refine lv_aload_n hx hb dX10_dots_76 rfl (lv_at hl 0 rfl) ?_
            refine lv_iload_n hx hb dX10_dots_77 rfl (lv_at hl 1 rfl) ?_
            refine za_cv (wc := zm_ws g h ad (zm_s M5 21 0)) (wr := []) C hP hD hS [0, 1, 2, 3, 4, 5, 6, 7, 8, 9, 10, 11, 12, 13, 14, 15, 16, 17] [] rfl rfl (by decide) (by decide) (za_runV C hP hD hS [0, 1, 2, 3, 4, 5, 6, 7, 8, 9, 10, 11, 12, 13, 14, 15, 16, 17] rfl (by decide) rfl (kX10_gap l g E h ad (zm_s M5 21 0) x (by rw [hM5]; exact zm_T_token hT)) w_973 mX10_gap 0 rfl rfl rfl rfl hl.1 rfl (Nat.le_of_ble_eq_true rfl) dX10_dots_78 ⟨by decide, by decide⟩ ⟨by decide, by decide⟩) (fun M6 H locs hM6 hP hD hS => ?_)
            have hP : va_P g.1 vwCl (zm_ws g h ad M6) H := hP
            have hD : va_D A (zm_ws g h ad M6) := hD
            refine lv_goto (tgt := 165) hx hb dX10_dots_81 (by decide) ?_
            subst hM6
            subst hM5
            subst hr4
            exact zm_rv hQ hx hb hr hlocks hK hP hD hS (by simp [zm_dots, zm_dotsA, zq_upd, eq_true c_6, eq_true c_13, eq_true c_36, c_42, eq_true c_60]) dX10_dots_165
        · refine lv_aload_n hx hb dX10_dots_45 rfl (lv_at hl 0 rfl) ?_
          refine lv_bipush (v := 13) hx hb dX10_dots_46 (by decide) ?_
          refine va_put (ci := 9) (v := .int 13) hx hb hts iX10 tyX10 tyX10_ok nmX10 hown hK hP hD hS 0 rfl rfl 21 (by decide) (hts _ w_832) (fun _ h9 => h9) rfl (tyX10_ok 21 (by decide)) rfl rfl (Nat.le_of_ble_eq_true rfl) dX10_dots_48 (fun H locs hP hD hS => ?_)
          have hP : va_P g.1 vwCl (zm_ws g h ad (zm_s M 21 13)) H := hP
          have hD : va_D A (zm_ws g h ad (zm_s M 21 13)) := hD
          refine lv_goto (tgt := 165) hx hb dX10_dots_51 (by decide) ?_
          subst hr4
          exact zm_rv hQ hx hb hr hlocks hK hP hD hS (by simp [zm_dots, zm_dotsA, zq_upd, eq_true c_6, eq_true c_13, eq_true c_36, eq_true c_42]) dX10_dots_165
    · refine lv_aload_n hx hb dX10_dots_16 rfl (lv_at hl 0 rfl) ?_
      refine lv_bipush (v := 7) hx hb dX10_dots_17 (by decide) ?_
      refine va_put (ci := 9) (v := .int 7) hx hb hts iX10 tyX10 tyX10_ok nmX10 hown hK hP hD hS 0 rfl rfl 21 (by decide) (hts _ w_832) (fun _ h9 => h9) rfl (tyX10_ok 21 (by decide)) rfl rfl (Nat.le_of_ble_eq_true rfl) dX10_dots_19 (fun H locs hP hD hS => ?_)
      have hP : va_P g.1 vwCl (zm_ws g h ad (zm_s M 21 7)) H := hP
      have hD : va_D A (zm_ws g h ad (zm_s M 21 7)) := hD
      refine lv_aload_n hx hb dX10_dots_22 rfl (lv_at hl 0 rfl) ?_
      refine lv_iconst (v := 0) hx hb dX10_dots_23 (by decide) ?_
      refine va_put (ci := 9) (v := .int 0) hx hb hts iX10 tyX10 tyX10_ok nmX10 hown hK hP hD hS 0 rfl rfl 26 (by decide) (hts _ w_837) (fun _ h9 => h9) rfl (tyX10_ok 26 (by decide)) rfl rfl (Nat.le_of_ble_eq_true rfl) dX10_dots_24 (fun H locs hP hD hS => ?_)
      have hP : va_P g.1 vwCl (zm_ws g h ad (zm_s (zm_s M 21 7) 26 0)) H := hP
      have hD : va_D A (zm_ws g h ad (zm_s (zm_s M 21 7) 26 0)) := hD
      refine lv_goto (tgt := 165) hx hb dX10_dots_27 (by decide) ?_
      subst hr4
      exact zm_rv hQ hx hb hr hlocks hK hP hD hS (by simp [zm_dots, zm_dotsA, zq_upd, eq_true c_6, c_13]) dX10_dots_165
