theorem z_lt_succ {T : Nat} (h : T < 16384) : nI T < nI T + 1 := by
  rw [nI_1]
  exact nI_lt (by omega) (by omega)
theorem zm_N_token {M : zm_M} {k n q : Int32} (hT : zm_T M) (hN : zm_N M) (hr : ¬ zr_room M = 0) : zm_N (zm_token M k n q) := by
  obtain ⟨T, hT1, hT2⟩ := nI_of hT.1
  have hlt := zr_room_lt hr
  rw [hT2] at hlt
  have hT3 : T < 16384 := (nI_ltI hT1 (by decide)).mp hlt
  rw [zm_token_ok hr]
  refine ⟨hN.1, hN.2.1, fun j h1 h2 => ?_⟩
  obtain ⟨p1, t, t1, t2, t3, q9, w9, t4, t5, t6⟩ := hN.2.2 j h1 h2
  have ht : t < T := by
    rw [hT2] at t3
    exact (nI_ltI (by omega) hT1).mp t3
  have hc : (M.1 3).toNatClampNeg = T := by rw [hT2]; exact nI_clamp hT1
  refine ⟨p1, t, t1, t2, ?_, q9, w9, ?_, ?_, t6⟩
  · show nI t < M.1 3 + 1
    rw [hT2]
    exact Int32.lt_trans (nI_lt ht hT1) (z_lt_succ hT3)
  · show upd (M.2.1 5) (M.1 3).toNatClampNeg (M.1 23) t = nI q9
    rw [zq_upd, hc, if_neg (by omega)]
    exact t4
  · show upd (M.2.1 8) (M.1 3).toNatClampNeg n t = nI w9
    rw [zq_upd, hc, if_neg (by omega)]
    exact t5
set_option maxHeartbeats 4000000 in
set_option maxRecDepth 100000 in
theorem kX10_name (l : Launch) (g : za_G) (E : za_E) (h : Nat) (ad : Nat → Nat) (M : zm_M)  (hT : zm_T M) (hB : zm_B M) (hlt : M.1 23 < M.1 27) (hN : zm_N M) : za_Cv l g E yX10_name cX10_name 4 5 0 0 [.ref h] (zm_ws g h ad M) (fun u : zm_M => u = zm_name M) (fun u => zm_ws g h ad u) := by
  refine za_begin (by decide) (Nat.le_of_ble_eq_true rfl) RX10 rfl ?_
  intro p e s m args below meth co A ls Q H locs C hQ hr hlocks hnm hS hP hD hl
  obtain ⟨hx, hb, hml, hown, hts, hK, hA, hE⟩ := id C
  have hl : lv_has ls 4 [(0, .ref h)] := hl
  obtain ⟨a, b, u, g27, g23, g15, hba0, ha, hub⟩ := hB
  have hba : b < a := by rw [g27, g23] at hlt; exact (nI_ltI (by omega) (by omega)).mp hlt
  have hs9 : ¬ M.1 23 < 0 := by rw [g23]; exact nI_pos (by omega)
  have hn9 : M.1 27 - M.1 23 = nI (a - b) := by rw [g27, g23, pk_sub hba0]
  have hq9 : ∀ j : Nat, j < a - b → vp_in (M.1 23 + nI j) 65536 := fun j hj => by rw [g23, nI_add]; exact vp_in_nI (by omega) (by omega)
  refine lv_aload_n hx hb dX10_name_0 rfl (lv_at hl 0 rfl) ?_
  refine za_ci (wc := zm_ws g h ad M) (wr := []) C hP hD hS [0, 1, 2, 3, 4, 5, 6, 7, 8, 9, 10, 11, 12, 13, 14, 15, 16, 17] [] rfl rfl (by decide) (by decide) (za_runV C hP hD hS [0, 1, 2, 3, 4, 5, 6, 7, 8, 9, 10, 11, 12, 13, 14, 15, 16, 17] rfl (by decide) rfl (kX10_wordOf l g E h ad M  (a - b) hn9 (by omega) hq9) w_1022 mX10_wordOf 0 rfl rfl rfl rfl hl.1 rfl (Nat.le_of_ble_eq_true rfl) dX10_name_1 ⟨by decide, by decide⟩ ⟨by decide, by decide⟩) (fun r1 _ H locs hr1 hP hD hS => ?_)
  have hP : va_P g.1 vwCl (zm_ws g h ad M) H := hP
  have hD : va_D A (zm_ws g h ad M) := hD
  refine lv_istore_n (lv' := [(1, .int r1), (0, .ref h)]) hx hb dX10_name_4 rfl hl (by decide) rfl (fun ls hl => ?_)
  refine lv_aload_n hx hb dX10_name_5 rfl (lv_at hl 1 rfl) ?_
  have J_18 : ∀ v9 : Int32, v9 = (zr_wk r1) → W p l e (za_R 5 0 0) s m args below meth co H locs 0 0 Q (F0 m 18 ls (.int v9 :: [.ref h])) := by
    intro v_18 hv_18
    refine lv_aload_n hx hb dX10_name_18 rfl (lv_at hl 1 rfl) ?_
    refine va_get (ci := 9) (v := .int (M.1 27)) hx hb hts iX10 hown hK hP 0 rfl rfl 27 (by decide) (hts _ w_838) (fun _ h9 => h9) rfl dX10_name_19 ?_
    refine lv_aload_n hx hb dX10_name_22 rfl (lv_at hl 1 rfl) ?_
    refine va_get (ci := 9) (v := .int (M.1 23)) hx hb hts iX10 hown hK hP 0 rfl rfl 23 (by decide) (hts _ w_834) (fun _ h9 => h9) rfl dX10_name_23 ?_
    refine lv_isub hx hb dX10_name_26 ?_
    refine lv_iconst (v := 0) hx hb dX10_name_27 (by decide) ?_
    refine za_cv (wc := zm_ws g h ad M) (wr := []) C hP hD hS [0, 1, 2, 3, 4, 5, 6, 7, 8, 9, 10, 11, 12, 13, 14, 15, 16, 17] [] rfl rfl (by decide) (by decide) (za_runV C hP hD hS [0, 1, 2, 3, 4, 5, 6, 7, 8, 9, 10, 11, 12, 13, 14, 15, 16, 17] rfl (by decide) rfl (kX10_token l g E h ad M v_18 ((M.1 27) - (M.1 23)) 0 hT) w_985 mX10_token 0 rfl rfl rfl rfl hl.1 rfl (Nat.le_of_ble_eq_true rfl) dX10_name_28 ⟨by decide, by decide⟩ ⟨by decide, by decide⟩) (fun M2 H locs hM2 hP hD hS => ?_)
    have hP : va_P g.1 vwCl (zm_ws g h ad M2) H := hP
    have hD : va_D A (zm_ws g h ad M2) := hD
    refine lv_aload_n hx hb dX10_name_31 rfl (lv_at hl 1 rfl) ?_
    refine va_get (ci := 9) (v := .int (M2.1 30)) hx hb hts iX10 hown hK hP 0 rfl rfl 30 (by decide) (hts _ w_841) (fun _ h9 => h9) rfl dX10_name_32 ?_
    refine lv_if_lt (tgt := 39) hx hb dX10_name_35 (by decide) (fun c_35 => ?_) (fun c_35 => ?_)
    · refine lv_aload_n hx hb dX10_name_39 rfl (lv_at hl 1 rfl) ?_
      refine va_get (ci := 9) (v := .int (M2.1 23)) hx hb hts iX10 hown hK hP 0 rfl rfl 23 (by decide) (hts _ w_834) (fun _ h9 => h9) rfl dX10_name_40 ?_
      refine lv_istore_n (lv' := [(2, .int (M2.1 23)), (1, .int r1), (0, .ref h)]) hx hb dX10_name_43 rfl hl (by decide) rfl (fun ls hl => ?_)
      have hw9 : (zm_token M v_18 (M.1 27 - M.1 23) 0).1 30 < 0 := by rw [← hM2]; exact c_35
      have h27 : M2.1 27 = nI a := by rw [hM2, zm_token_f M _ _ _ (by decide) (by decide)]; exact g27
      have h23 : M2.1 23 = nI b := by rw [hM2, zm_token_f M _ _ _ (by decide) (by decide)]; exact g23
      have h15 : M2.1 15 = nI u := by rw [hM2, zm_token_f M _ _ _ (by decide) (by decide)]; exact g15
      have hti : vp_in (M2.1 3 - 1) 16384 := by rw [hM2]; exact zm_token_pos hT hs9 hw9
      have hN1 : zm_N M2 := by rw [hM2]; exact zm_N_token hT hN (zm_token_room hs9 hw9)
      have hf9 : zm_name M = let M2 := zm_keeps M2 (fun i => zr_byteAt M2 (M2.1 23 + nI i)) (a - b); let M3 := zm_a M2 13 (M2.1 3 - 1) (M2.1 27 - M2.1 23); if ¬ r1 < 0 then M3 else zm_numbered M3 := by
        have e6 : (M2.1 27 - M2.1 23).toNatClampNeg = a - b := by rw [h27, h23]; exact z_clamp (by omega) (by omega)
        rw [← e6]
        unfold zm_name
        dsimp only
        rw [← hr1, ← hv_18, ← hM2, if_neg (fun h9 => h9 c_35)]
      have hl : lv_has ls 4 [(2, .int (nI (b + 0))), (1, .int r1), (0, .ref h)] := by rw [h23] at hl; exact hl
      exact kL_nameK l g E h ad M r1 M2 a b u h27 h23 h15 hba ha hub hti hN1 hf9 C hQ hr hlocks _ 0 (by omega) (Nat.lt_succ_self _) H locs ls hS hP hD (lv_sub hl [2, 1, 0] rfl)
    · subst hM2
      subst hv_18
      subst hr1
      exact zm_rv hQ hx hb hr hlocks hK hP hD hS (by simp [zm_name, zq_upd, c_35]) dX10_name_38
  refine lv_iload_n hx hb dX10_name_6 rfl (lv_at hl 0 rfl) ?_
  refine za_if_ge (tgt := 14) hx hb dX10_name_7 (by decide) (fun c_7 => ?_) (fun c_7 => ?_)
  · refine lv_bipush (v := 10) hx hb dX10_name_14 (by decide) ?_
    refine lv_iload_n hx hb dX10_name_16 rfl (lv_at hl 0 rfl) ?_
    refine lv_iadd hx hb dX10_name_17 ?_
    exact J_18 (10 + r1) (by simp [zr_wk, c_7])
  · refine lv_iconst (v := 1) hx hb dX10_name_10 (by decide) ?_
    refine lv_goto (tgt := 18) hx hb dX10_name_11 (by decide) ?_
    exact J_18 1 (by simp [zr_wk, c_7])
