theorem zm_keeps_f0 (M : zm_M) (f : Nat → Int32) {i : Nat} (hi : i ≠ 15) : ∀ j, (zm_keeps M f j).1 i = M.1 i := by
  intro j
  induction j with
  | zero => rfl
  | succ j ih =>
    show upd (zm_keeps M f j).1 15 _ i = M.1 i
    rw [zq_upd, if_neg hi]
    exact ih
theorem zm_numbered_f (M : zm_M) {j : Nat} (h : j ≠ 17) : (zm_numbered M).1 j = M.1 j := by
  unfold zm_numbered
  dsimp only
  split
  · show upd M.1 17 _ j = M.1 j
    rw [zq_upd, if_neg h]
  · rfl
theorem zm_name_g (M : zm_M) {j : Nat} (h15 : j ≠ 15) (h17 : j ≠ 17) : (zm_name M).1 j = (zm_token M (zr_wk (zr_wordOf M)) (M.1 27 - M.1 23) 0).1 j := by
  unfold zm_name
  dsimp only
  split
  · rfl
  · split
    · show (zm_keeps _ _ _).1 j = _
      rw [zm_keeps_f0 _ _ h15]
    · rw [zm_numbered_f _ h17]
      show (zm_keeps _ _ _).1 j = _
      rw [zm_keeps_f0 _ _ h15]
theorem zm_T_name {M : zm_M} (h : zm_T M) : zm_T (zm_name M) := by
  have h2 := zm_T_token (k := zr_wk (zr_wordOf M)) (n := M.1 27 - M.1 23) (q := 0) h
  unfold zm_T at *
  rw [zm_name_g M (by decide) (by decide)]
  exact h2
theorem zm_number_g (M : zm_M) (q : Int32) {j : Nat} (h15 : j ≠ 15) : (zm_number M q).1 j = (zm_token M (zr_nk q) (M.1 27 - M.1 23) 0).1 j := by
  unfold zm_number
  dsimp only
  split
  · rfl
  · split
    · show (zm_keepN _ _ _).1 j = _
      rw [zm_keepN_f _ _ h15]
    · rw [(zm_value_f _ _ _ _).1]
      show (zm_keepN _ _ _).1 j = _
      rw [zm_keepN_f _ _ h15]
theorem zm_T_number {M : zm_M} {q : Int32} (h : zm_T M) : zm_T (zm_number M q) := by
  have h2 := zm_T_token (k := zr_nk q) (n := M.1 27 - M.1 23) (q := 0) h
  unfold zm_T at *
  rw [zm_number_g M q (by decide)]
  exact h2
theorem zm_number_27 {M : zm_M} {q : Int32} (h : zm_B M) : (zm_number M q).1 27 = M.1 27 ∧ zm_B M := by
  refine ⟨?_, h⟩
  rw [zm_number_g M q (by decide)]
  exact zm_token_f M _ _ _ (by decide) (by decide)
theorem zm_B_at {M M1 : zm_M} (h : M1.1 27 = M.1 27 ∧ zm_B M) : vp_in (M1.1 27) 65536 := by
  obtain ⟨h, a, b, u, ha, hb, hu, h1, h2, h3⟩ := h
  rw [h, ha]
  exact vp_in_nI (by omega) (by omega)
theorem zm_semi_f (M : zm_M) {j : Nat} (h3 : j ≠ 3) (h30 : j ≠ 30) : (zm_semicolon M).1 j = M.1 j := by
  unfold zm_semicolon
  split
  · rfl
  · exact zm_token_f M _ _ _ h3 h30
theorem zm_semi_23 {M : zm_M} {v w : Int32} (hs : ¬ M.1 23 < 0) : ¬ (zm_s (zm_semicolon (zm_s M 31 v)) 32 w).1 23 < 0 := by
  show ¬ (zm_semicolon (zm_s M 31 v)).1 23 < 0
  rw [zm_semi_f _ (by decide) (by decide)]
  exact hs
theorem zm_semi_K {M : zm_M} {v w : Int32} {n : Nat} (hk : zm_K M n) : zm_K (zm_s (zm_semicolon (zm_s M 31 v)) 32 w) n := by
  obtain ⟨u, hu, h⟩ := hk
  refine ⟨u, ?_, h⟩
  show (zm_semicolon (zm_s M 31 v)).1 15 = nI u
  rw [zm_semi_f _ (by decide) (by decide)]
  exact hu
theorem zm_semi_36 {M : zm_M} {v w : Int32} : (zm_s (zm_semicolon (zm_s M 31 v)) 32 w).1 36 = M.1 36 := by
  show (zm_semicolon (zm_s M 31 v)).1 36 = M.1 36
  rw [zm_semi_f _ (by decide) (by decide)]
  rfl
theorem zm_room_f (M : zm_M) (q : Int32) {j : Nat} (hj : j ≠ 30) : (zm_room M q).1 j = M.1 j := by
  unfold zm_room
  split
  · rfl
  · split
    · show upd M.1 30 q j = M.1 j
      rw [zq_upd, if_neg hj]
    · rfl
theorem zm_room_sg {M : zm_M} {q v : Int32} : (zm_s (zm_room M q) 21 v).1 27 - (zm_s (zm_room M q) 21 v).1 23 = M.1 27 - M.1 23 := by
  show (zm_room M q).1 27 - (zm_room M q).1 23 = M.1 27 - M.1 23
  rw [zm_room_f M q (by decide), zm_room_f M q (by decide)]
theorem zm_room_sq {M : zm_M} {q v : Int32} {k : Nat} (hq : ∀ j : Nat, j < k → vp_in (M.1 23 + nI j) 65536) : ∀ j : Nat, j < k → vp_in ((zm_s (zm_room M q) 21 v).1 23 + nI j) 65536 := by
  intro j hj
  show vp_in ((zm_room M q).1 23 + nI j) 65536
  rw [zm_room_f M q (by decide)]
  exact hq j hj
set_option maxHeartbeats 4000000 in
set_option maxRecDepth 100000 in
theorem kX10_character (l : Launch) (g : za_G) (E : za_E) (h : Nat) (ad : Nat → Nat) (M : zm_M) (x : Int32) (hk : zm_K M 1) : za_Cv l g E yX10_character cX10_character 2 1 0 0 [.ref h, .int x] (zm_ws g h ad M) (fun u : zm_M => u = zm_character M x) (fun u => zm_ws g h ad u) := by
  refine za_begin (by decide) (Nat.le_of_ble_eq_true rfl) RX10 rfl ?_
  intro p e s m args below meth co A ls Q H locs C hQ hr hlocks hnm hS hP hD hl
  obtain ⟨hx, hb, hml, hown, hts, hK, hA, hE⟩ := id C
  have hl : lv_has ls 2 [(0, .ref h), (1, .int x)] := hl
  refine lv_aload_n hx hb dX10_character_0 rfl (lv_at hl 0 rfl) ?_
  refine lv_iload_n hx hb dX10_character_1 rfl (lv_at hl 1 rfl) ?_
  refine va_put (ci := 9) (fs := zm_fs ad M.1) (v := .int x) hx hb hts iX10 tyX10 tyX10_ok nmX10 hown hK hP hD hS 0 rfl rfl 38 (by decide) (hts _ w_849) (fun _ h9 => h9) rfl (tyX10_ok 38 (by decide)) rfl rfl (Nat.le_of_ble_eq_true rfl) dX10_character_2 (fun H locs hP hD hS => ?_)
  have hP := zm_pf38 (X := M) hP
  have hD := zm_df38 (X := M) hD
  refine lv_iload_n hx hb dX10_character_5 rfl (lv_at hl 1 rfl) ?_
  refine lv_sipush (v := 128) hx hb dX10_character_6 (by decide) ?_
  refine za_icmp_ge (tgt := 20) hx hb dX10_character_9 (by decide) (fun c_9 => ?_) (fun c_9 => ?_)
  · refine lv_aload_n hx hb dX10_character_20 rfl (lv_at hl 0 rfl) ?_
    have J_76 : ∀ v9 : Int32, v9 = (zr_mo x) → W p l e (za_R 1 0 0) s m args below meth co H locs 0 0 Q (F0 m 76 ls (.int v9 :: [.ref h])) := by
      intro v_76 hv_76
      refine va_put (ci := 9) (fs := zm_fs ad (zm_s M 38 x).1) (v := .int v_76) hx hb hts iX10 tyX10 tyX10_ok nmX10 hown hK hP hD hS 0 rfl rfl 33 (by decide) (hts _ w_844) (fun _ h9 => h9) rfl (tyX10_ok 33 (by decide)) rfl rfl (Nat.le_of_ble_eq_true rfl) dX10_character_76 (fun H locs hP hD hS => ?_)
      have hP := zm_pf33 (X := zm_s M 38 x) hP
      have hD := zm_df33 (X := zm_s M 38 x) hD
      refine lv_aload_n hx hb dX10_character_79 rfl (lv_at hl 0 rfl) ?_
      have J_109 : ∀ v9 : Int32, v9 = (zr_lo x) → W p l e (za_R 1 0 0) s m args below meth co H locs 0 0 Q (F0 m 109 ls (.int v9 :: [.ref h])) := by
        intro v_109 hv_109
        refine va_put (ci := 9) (fs := zm_fs ad (zm_s (zm_s M 38 x) 33 v_76).1) (v := .int v_109) hx hb hts iX10 tyX10 tyX10_ok nmX10 hown hK hP hD hS 0 rfl rfl 34 (by decide) (hts _ w_845) (fun _ h9 => h9) rfl (tyX10_ok 34 (by decide)) rfl rfl (Nat.le_of_ble_eq_true rfl) dX10_character_109 (fun H locs hP hD hS => ?_)
        have hP := zm_pf34 (X := zm_s (zm_s M 38 x) 33 v_76) hP
        have hD := zm_df34 (X := zm_s (zm_s M 38 x) 33 v_76) hD
        refine lv_aload_n hx hb dX10_character_112 rfl (lv_at hl 0 rfl) ?_
        have J_142 : ∀ v9 : Int32, v9 = (zr_hi x) → W p l e (za_R 1 0 0) s m args below meth co H locs 0 0 Q (F0 m 142 ls (.int v9 :: [.ref h])) := by
          intro v_142 hv_142
          refine va_put (ci := 9) (fs := zm_fs ad (zm_s (zm_s (zm_s M 38 x) 33 v_76) 34 v_109).1) (v := .int v_142) hx hb hts iX10 tyX10 tyX10_ok nmX10 hown hK hP hD hS 0 rfl rfl 35 (by decide) (hts _ w_846) (fun _ h9 => h9) rfl (tyX10_ok 35 (by decide)) rfl rfl (Nat.le_of_ble_eq_true rfl) dX10_character_142 (fun H locs hP hD hS => ?_)
          have hP := zm_pf35 (X := zm_s (zm_s (zm_s M 38 x) 33 v_76) 34 v_109) hP
          have hD := zm_df35 (X := zm_s (zm_s (zm_s M 38 x) 33 v_76) 34 v_109) hD
          refine lv_aload_n hx hb dX10_character_145 rfl (lv_at hl 0 rfl) ?_
          refine lv_iload_n hx hb dX10_character_146 rfl (lv_at hl 1 rfl) ?_
          have J_175 : ∀ v9 : Int32, v9 = (zr_mask v_76) → W p l e (za_R 1 0 0) s m args below meth co H locs 0 0 Q (F0 m 175 ls (.int v9 :: [.int x, .ref h])) := by
            intro v_175 hv_175
            refine lv_iand hx hb dX10_character_175 ?_
            refine va_put (ci := 9) (fs := zm_fs ad (zm_s (zm_s (zm_s (zm_s M 38 x) 33 v_76) 34 v_109) 35 v_142).1) (v := .int (x &&& v_175)) hx hb hts iX10 tyX10 tyX10_ok nmX10 hown hK hP hD hS 0 rfl rfl 38 (by decide) (hts _ w_849) (fun _ h9 => h9) rfl (tyX10_ok 38 (by decide)) rfl rfl (Nat.le_of_ble_eq_true rfl) dX10_character_176 (fun H locs hP hD hS => ?_)
            have hP := zm_pf38 (X := zm_s (zm_s (zm_s (zm_s M 38 x) 33 v_76) 34 v_109) 35 v_142) hP
            have hD := zm_df38 (X := zm_s (zm_s (zm_s (zm_s M 38 x) 33 v_76) 34 v_109) 35 v_142) hD
            refine lv_aload_n hx hb dX10_character_179 rfl (lv_at hl 0 rfl) ?_
            refine va_get (ci := 9) (v := .int v_76) hx hb hts iX10 hown hK hP 0 rfl rfl 33 (by decide) (hts _ w_844) (fun _ h9 => h9) rfl dX10_character_180 ?_
            refine lv_if_ne (tgt := 191) hx hb dX10_character_183 (by decide) (fun c_183 => ?_) (fun c_183 => ?_)
            · refine lv_aload_n hx hb dX10_character_191 rfl (lv_at hl 0 rfl) ?_
              refine va_get (ci := 9) (v := .int (M.1 32)) hx hb hts iX10 hown hK hP 0 rfl rfl 32 (by decide) (hts _ w_843) (fun _ h9 => h9) rfl dX10_character_192 ?_
              refine lv_if_eq (tgt := 218) hx hb dX10_character_195 (by decide) (fun c_195 => ?_) (fun c_195 => ?_)
              · subst hv_175
                subst hv_142
                subst hv_109
                subst hv_76
                exact zm_rv hQ hx hb hr hlocks hK hP hD hS (by simp [zm_character, zm_charK, zq_upd, c_9, c_183, eq_true c_195]) dX10_character_218
              · refine lv_aload_n hx hb dX10_character_198 rfl (lv_at hl 0 rfl) ?_
                refine va_get (ci := 9) (v := .int (M.1 32)) hx hb hts iX10 hown hK hP 0 rfl rfl 32 (by decide) (hts _ w_843) (fun _ h9 => h9) rfl dX10_character_199 ?_
                refine lv_bipush (v := 96) hx hb dX10_character_202 (by decide) ?_
                refine lv_icmp_ne (tgt := 213) hx hb dX10_character_204 (by decide) (fun c_204 => ?_) (fun c_204 => ?_)
                · refine lv_aload_n hx hb dX10_character_213 rfl (lv_at hl 0 rfl) ?_
                  refine lv_iload_n hx hb dX10_character_214 rfl (lv_at hl 1 rfl) ?_
                  refine za_cv (wc := zm_ws g h ad (zm_s (zm_s (zm_s (zm_s (zm_s M 38 x) 33 v_76) 34 v_109) 35 v_142) 38 (x &&& v_175))) (wr := []) C hP hD hS [0, 1, 2, 3, 4, 5, 6, 7, 8, 9, 10, 11, 12, 13, 14, 15, 16, 17] [] rfl rfl (by decide) (by decide) (za_runV C hP hD hS [0, 1, 2, 3, 4, 5, 6, 7, 8, 9, 10, 11, 12, 13, 14, 15, 16, 17] rfl (by decide) rfl (kX10_keep l g E h ad (zm_s (zm_s (zm_s (zm_s (zm_s M 38 x) 33 v_76) 34 v_109) 35 v_142) 38 (x &&& v_175)) x (zm_K_in (n := 0) hk)) w_1027 mX10_keep 0 rfl rfl rfl rfl hl.1 rfl (Nat.le_of_ble_eq_true rfl) dX10_character_215 ⟨by decide, by decide⟩ ⟨by decide, by decide⟩) (fun M1 H locs hM1 hP hD hS => ?_)
                  have hP : va_P g.1 vwCl (zm_ws g h ad M1) H := hP
                  have hD : va_D A (zm_ws g h ad M1) := hD
                  subst hM1
                  subst hv_175
                  subst hv_142
                  subst hv_109
                  subst hv_76
                  exact zm_rv hQ hx hb hr hlocks hK hP hD hS (by simp [zm_character, zm_charK, zq_upd, c_9, c_183, c_195, c_204]) dX10_character_218
                · refine lv_iload_n hx hb dX10_character_207 rfl (lv_at hl 1 rfl) ?_
                  refine lv_bipush (v := 13) hx hb dX10_character_208 (by decide) ?_
                  refine lv_icmp_eq (tgt := 218) hx hb dX10_character_210 (by decide) (fun c_210 => ?_) (fun c_210 => ?_)
                  · subst hv_175
                    subst hv_142
                    subst hv_109
                    subst hv_76
                    exact zm_rv hQ hx hb hr hlocks hK hP hD hS (by simp [zm_character, zm_charK, zq_upd, c_9, c_183, c_195, eq_true c_204, eq_true c_210]) dX10_character_218
                  · refine lv_aload_n hx hb dX10_character_213 rfl (lv_at hl 0 rfl) ?_
                    refine lv_iload_n hx hb dX10_character_214 rfl (lv_at hl 1 rfl) ?_
                    refine za_cv (wc := zm_ws g h ad (zm_s (zm_s (zm_s (zm_s (zm_s M 38 x) 33 v_76) 34 v_109) 35 v_142) 38 (x &&& v_175))) (wr := []) C hP hD hS [0, 1, 2, 3, 4, 5, 6, 7, 8, 9, 10, 11, 12, 13, 14, 15, 16, 17] [] rfl rfl (by decide) (by decide) (za_runV C hP hD hS [0, 1, 2, 3, 4, 5, 6, 7, 8, 9, 10, 11, 12, 13, 14, 15, 16, 17] rfl (by decide) rfl (kX10_keep l g E h ad (zm_s (zm_s (zm_s (zm_s (zm_s M 38 x) 33 v_76) 34 v_109) 35 v_142) 38 (x &&& v_175)) x (zm_K_in (n := 0) hk)) w_1027 mX10_keep 0 rfl rfl rfl rfl hl.1 rfl (Nat.le_of_ble_eq_true rfl) dX10_character_215 ⟨by decide, by decide⟩ ⟨by decide, by decide⟩) (fun M2 H locs hM2 hP hD hS => ?_)
                    have hP : va_P g.1 vwCl (zm_ws g h ad M2) H := hP
                    have hD : va_D A (zm_ws g h ad M2) := hD
                    subst hM2
                    subst hv_175
                    subst hv_142
                    subst hv_109
                    subst hv_76
                    exact zm_rv hQ hx hb hr hlocks hK hP hD hS (by simp [zm_character, zm_charK, zq_upd, c_9, c_183, c_195, eq_true c_204, c_210]) dX10_character_218
            · refine lv_aload_n hx hb dX10_character_186 rfl (lv_at hl 0 rfl) ?_
              refine za_cv (wc := zm_ws g h ad (zm_s (zm_s (zm_s (zm_s (zm_s M 38 x) 33 v_76) 34 v_109) 35 v_142) 38 (x &&& v_175))) (wr := []) C hP hD hS [0, 1, 2, 3, 4, 5, 6, 7, 8, 9, 10, 11, 12, 13, 14, 15, 16, 17] [] rfl rfl (by decide) (by decide) (za_runV C hP hD hS [0, 1, 2, 3, 4, 5, 6, 7, 8, 9, 10, 11, 12, 13, 14, 15, 16, 17] rfl (by decide) rfl (kX10_error l g E h ad (zm_s (zm_s (zm_s (zm_s (zm_s M 38 x) 33 v_76) 34 v_109) 35 v_142) 38 (x &&& v_175))  ) w_1010 mX10_error 0 rfl rfl rfl rfl hl.1 rfl (Nat.le_of_ble_eq_true rfl) dX10_character_187 ⟨by decide, by decide⟩ ⟨by decide, by decide⟩) (fun M3 H locs hM3 hP hD hS => ?_)
              have hP : va_P g.1 vwCl (zm_ws g h ad M3) H := hP
              have hD : va_D A (zm_ws g h ad M3) := hD
              subst hM3
              subst hv_175
              subst hv_142
              subst hv_109
              subst hv_76
              exact zm_rv hQ hx hb hr hlocks hK hP hD hS (by simp [zm_character, zm_charK, zq_upd, c_9, eq_true c_183]) dX10_character_190
          refine lv_aload_n hx hb dX10_character_147 rfl (lv_at hl 0 rfl) ?_
          refine va_get (ci := 9) (v := .int v_76) hx hb hts iX10 hown hK hP 0 rfl rfl 33 (by decide) (hts _ w_844) (fun _ h9 => h9) rfl dX10_character_148 ?_
          refine lv_iconst (v := 1) hx hb dX10_character_151 (by decide) ?_
          refine lv_icmp_ne (tgt := 160) hx hb dX10_character_152 (by decide) (fun c_152 => ?_) (fun c_152 => ?_)
          · refine lv_aload_n hx hb dX10_character_160 rfl (lv_at hl 0 rfl) ?_
            refine va_get (ci := 9) (v := .int v_76) hx hb hts iX10 hown hK hP 0 rfl rfl 33 (by decide) (hts _ w_844) (fun _ h9 => h9) rfl dX10_character_161 ?_
            refine lv_iconst (v := 2) hx hb dX10_character_164 (by decide) ?_
            refine lv_icmp_ne (tgt := 173) hx hb dX10_character_165 (by decide) (fun c_165 => ?_) (fun c_165 => ?_)
            · refine lv_bipush (v := 7) hx hb dX10_character_173 (by decide) ?_
              exact J_175 7 (by simp [zr_mask, c_9, c_152, c_165])
            · refine lv_bipush (v := 15) hx hb dX10_character_168 (by decide) ?_
              refine lv_goto (tgt := 175) hx hb dX10_character_170 (by decide) ?_
              exact J_175 15 (by simp [zr_mask, c_9, c_152, eq_true c_165])
          · refine lv_bipush (v := 31) hx hb dX10_character_155 (by decide) ?_
            refine lv_goto (tgt := 175) hx hb dX10_character_157 (by decide) ?_
            exact J_175 31 (by simp [zr_mask, c_9, eq_true c_152])
        refine lv_iload_n hx hb dX10_character_113 rfl (lv_at hl 1 rfl) ?_
        refine lv_sipush (v := 237) hx hb dX10_character_114 (by decide) ?_
        refine lv_icmp_ne (tgt := 126) hx hb dX10_character_117 (by decide) (fun c_117 => ?_) (fun c_117 => ?_)
        · refine lv_iload_n hx hb dX10_character_126 rfl (lv_at hl 1 rfl) ?_
          refine lv_sipush (v := 244) hx hb dX10_character_127 (by decide) ?_
          refine lv_icmp_ne (tgt := 139) hx hb dX10_character_130 (by decide) (fun c_130 => ?_) (fun c_130 => ?_)
          · refine lv_sipush (v := 191) hx hb dX10_character_139 (by decide) ?_
            exact J_142 191 (by simp [zr_hi, c_9, c_117, c_130])
          · refine lv_sipush (v := 143) hx hb dX10_character_133 (by decide) ?_
            refine lv_goto (tgt := 142) hx hb dX10_character_136 (by decide) ?_
            exact J_142 143 (by simp [zr_hi, c_9, c_117, eq_true c_130])
        · refine lv_sipush (v := 159) hx hb dX10_character_120 (by decide) ?_
          refine lv_goto (tgt := 142) hx hb dX10_character_123 (by decide) ?_
          exact J_142 159 (by simp [zr_hi, c_9, eq_true c_117])
      refine lv_iload_n hx hb dX10_character_80 rfl (lv_at hl 1 rfl) ?_
      refine lv_sipush (v := 224) hx hb dX10_character_81 (by decide) ?_
      refine lv_icmp_ne (tgt := 93) hx hb dX10_character_84 (by decide) (fun c_84 => ?_) (fun c_84 => ?_)
      · refine lv_iload_n hx hb dX10_character_93 rfl (lv_at hl 1 rfl) ?_
        refine lv_sipush (v := 240) hx hb dX10_character_94 (by decide) ?_
        refine lv_icmp_ne (tgt := 106) hx hb dX10_character_97 (by decide) (fun c_97 => ?_) (fun c_97 => ?_)
        · refine lv_sipush (v := 128) hx hb dX10_character_106 (by decide) ?_
          exact J_109 128 (by simp [zr_lo, c_9, c_84, c_97])
        · refine lv_sipush (v := 144) hx hb dX10_character_100 (by decide) ?_
          refine lv_goto (tgt := 109) hx hb dX10_character_103 (by decide) ?_
          exact J_109 144 (by simp [zr_lo, c_9, c_84, eq_true c_97])
      · refine lv_sipush (v := 160) hx hb dX10_character_87 (by decide) ?_
        refine lv_goto (tgt := 109) hx hb dX10_character_90 (by decide) ?_
        exact J_109 160 (by simp [zr_lo, c_9, eq_true c_84])
    refine lv_iload_n hx hb dX10_character_21 rfl (lv_at hl 1 rfl) ?_
    refine lv_sipush (v := 194) hx hb dX10_character_22 (by decide) ?_
    refine lv_icmp_lt (tgt := 39) hx hb dX10_character_25 (by decide) (fun c_25 => ?_) (fun c_25 => ?_)
    · refine lv_iload_n hx hb dX10_character_39 rfl (lv_at hl 1 rfl) ?_
      refine lv_sipush (v := 224) hx hb dX10_character_40 (by decide) ?_
      refine lv_icmp_lt (tgt := 57) hx hb dX10_character_43 (by decide) (fun c_43 => ?_) (fun c_43 => ?_)
      · refine lv_iload_n hx hb dX10_character_57 rfl (lv_at hl 1 rfl) ?_
        refine lv_sipush (v := 240) hx hb dX10_character_58 (by decide) ?_
        refine lv_icmp_lt (tgt := 75) hx hb dX10_character_61 (by decide) (fun c_61 => ?_) (fun c_61 => ?_)
        · refine lv_iconst (v := 0) hx hb dX10_character_75 (by decide) ?_
          exact J_76 0 (by simp [zr_mo, c_9, c_25, c_43, c_61])
        · refine lv_iload_n hx hb dX10_character_64 rfl (lv_at hl 1 rfl) ?_
          refine lv_sipush (v := 245) hx hb dX10_character_65 (by decide) ?_
          refine za_icmp_ge (tgt := 75) hx hb dX10_character_68 (by decide) (fun c_68 => ?_) (fun c_68 => ?_)
          · refine lv_iconst (v := 0) hx hb dX10_character_75 (by decide) ?_
            exact J_76 0 (by simp [zr_mo, c_9, c_25, c_43, c_61, c_68])
          · refine lv_iconst (v := 3) hx hb dX10_character_71 (by decide) ?_
            refine lv_goto (tgt := 76) hx hb dX10_character_72 (by decide) ?_
            exact J_76 3 (by simp [zr_mo, c_9, c_25, c_43, c_61, c_68])
      · refine lv_iload_n hx hb dX10_character_46 rfl (lv_at hl 1 rfl) ?_
        refine lv_sipush (v := 240) hx hb dX10_character_47 (by decide) ?_
        refine za_icmp_ge (tgt := 57) hx hb dX10_character_50 (by decide) (fun c_50 => ?_) (fun c_50 => ?_)
        · refine lv_iload_n hx hb dX10_character_57 rfl (lv_at hl 1 rfl) ?_
          refine lv_sipush (v := 240) hx hb dX10_character_58 (by decide) ?_
          refine lv_icmp_lt (tgt := 75) hx hb dX10_character_61 (by decide) (fun c_61 => ?_) (fun c_61 => ?_)
          · exact absurd c_61 c_50
          · refine lv_iload_n hx hb dX10_character_64 rfl (lv_at hl 1 rfl) ?_
            refine lv_sipush (v := 245) hx hb dX10_character_65 (by decide) ?_
            refine za_icmp_ge (tgt := 75) hx hb dX10_character_68 (by decide) (fun c_68 => ?_) (fun c_68 => ?_)
            · refine lv_iconst (v := 0) hx hb dX10_character_75 (by decide) ?_
              exact J_76 0 (by simp [zr_mo, c_9, c_25, c_43, c_50, c_61, c_68])
            · refine lv_iconst (v := 3) hx hb dX10_character_71 (by decide) ?_
              refine lv_goto (tgt := 76) hx hb dX10_character_72 (by decide) ?_
              exact J_76 3 (by simp [zr_mo, c_9, c_25, c_43, c_50, c_61, c_68])
        · refine lv_iconst (v := 2) hx hb dX10_character_53 (by decide) ?_
          refine lv_goto (tgt := 76) hx hb dX10_character_54 (by decide) ?_
          exact J_76 2 (by simp [zr_mo, c_9, c_25, c_43, c_50])
    · refine lv_iload_n hx hb dX10_character_28 rfl (lv_at hl 1 rfl) ?_
      refine lv_sipush (v := 224) hx hb dX10_character_29 (by decide) ?_
      refine za_icmp_ge (tgt := 39) hx hb dX10_character_32 (by decide) (fun c_32 => ?_) (fun c_32 => ?_)
      · refine lv_iload_n hx hb dX10_character_39 rfl (lv_at hl 1 rfl) ?_
        refine lv_sipush (v := 224) hx hb dX10_character_40 (by decide) ?_
        refine lv_icmp_lt (tgt := 57) hx hb dX10_character_43 (by decide) (fun c_43 => ?_) (fun c_43 => ?_)
        · exact absurd c_43 c_32
        · refine lv_iload_n hx hb dX10_character_46 rfl (lv_at hl 1 rfl) ?_
          refine lv_sipush (v := 240) hx hb dX10_character_47 (by decide) ?_
          refine za_icmp_ge (tgt := 57) hx hb dX10_character_50 (by decide) (fun c_50 => ?_) (fun c_50 => ?_)
          · refine lv_iload_n hx hb dX10_character_57 rfl (lv_at hl 1 rfl) ?_
            refine lv_sipush (v := 240) hx hb dX10_character_58 (by decide) ?_
            refine lv_icmp_lt (tgt := 75) hx hb dX10_character_61 (by decide) (fun c_61 => ?_) (fun c_61 => ?_)
            · exact absurd c_61 c_50
            · refine lv_iload_n hx hb dX10_character_64 rfl (lv_at hl 1 rfl) ?_
              refine lv_sipush (v := 245) hx hb dX10_character_65 (by decide) ?_
              refine za_icmp_ge (tgt := 75) hx hb dX10_character_68 (by decide) (fun c_68 => ?_) (fun c_68 => ?_)
              · refine lv_iconst (v := 0) hx hb dX10_character_75 (by decide) ?_
                exact J_76 0 (by simp [zr_mo, c_9, c_25, c_32, c_43, c_50, c_61, c_68])
              · refine lv_iconst (v := 3) hx hb dX10_character_71 (by decide) ?_
                refine lv_goto (tgt := 76) hx hb dX10_character_72 (by decide) ?_
                exact J_76 3 (by simp [zr_mo, c_9, c_25, c_32, c_43, c_50, c_61, c_68])
          · refine lv_iconst (v := 2) hx hb dX10_character_53 (by decide) ?_
            refine lv_goto (tgt := 76) hx hb dX10_character_54 (by decide) ?_
            exact J_76 2 (by simp [zr_mo, c_9, c_25, c_32, c_43, c_50])
      · refine lv_iconst (v := 1) hx hb dX10_character_35 (by decide) ?_
        refine lv_goto (tgt := 76) hx hb dX10_character_36 (by decide) ?_
        exact J_76 1 (by simp [zr_mo, c_9, c_25, c_32])
  · refine lv_aload_n hx hb dX10_character_12 rfl (lv_at hl 0 rfl) ?_
    refine lv_iconst (v := 1) hx hb dX10_character_13 (by decide) ?_
    refine va_put (ci := 9) (fs := zm_fs ad (zm_s M 38 x).1) (v := .int 1) hx hb hts iX10 tyX10 tyX10_ok nmX10 hown hK hP hD hS 0 rfl rfl 41 (by decide) (hts _ w_852) (fun _ h9 => h9) rfl (tyX10_ok 41 (by decide)) rfl rfl (Nat.le_of_ble_eq_true rfl) dX10_character_14 (fun H locs hP hD hS => ?_)
    have hP := zm_pf41 (X := zm_s M 38 x) hP
    have hD := zm_df41 (X := zm_s M 38 x) hD
    refine lv_goto (tgt := 191) hx hb dX10_character_17 (by decide) ?_
    refine lv_aload_n hx hb dX10_character_191 rfl (lv_at hl 0 rfl) ?_
    refine va_get (ci := 9) (v := .int (M.1 32)) hx hb hts iX10 hown hK hP 0 rfl rfl 32 (by decide) (hts _ w_843) (fun _ h9 => h9) rfl dX10_character_192 ?_
    refine lv_if_eq (tgt := 218) hx hb dX10_character_195 (by decide) (fun c_195 => ?_) (fun c_195 => ?_)
    · exact zm_rv hQ hx hb hr hlocks hK hP hD hS (by simp [zm_character, zm_charK, zq_upd, c_9, eq_true c_195]) dX10_character_218
    · refine lv_aload_n hx hb dX10_character_198 rfl (lv_at hl 0 rfl) ?_
      refine va_get (ci := 9) (v := .int (M.1 32)) hx hb hts iX10 hown hK hP 0 rfl rfl 32 (by decide) (hts _ w_843) (fun _ h9 => h9) rfl dX10_character_199 ?_
      refine lv_bipush (v := 96) hx hb dX10_character_202 (by decide) ?_
      refine lv_icmp_ne (tgt := 213) hx hb dX10_character_204 (by decide) (fun c_204 => ?_) (fun c_204 => ?_)
      · refine lv_aload_n hx hb dX10_character_213 rfl (lv_at hl 0 rfl) ?_
        refine lv_iload_n hx hb dX10_character_214 rfl (lv_at hl 1 rfl) ?_
        refine za_cv (wc := zm_ws g h ad (zm_s (zm_s M 38 x) 41 1)) (wr := []) C hP hD hS [0, 1, 2, 3, 4, 5, 6, 7, 8, 9, 10, 11, 12, 13, 14, 15, 16, 17] [] rfl rfl (by decide) (by decide) (za_runV C hP hD hS [0, 1, 2, 3, 4, 5, 6, 7, 8, 9, 10, 11, 12, 13, 14, 15, 16, 17] rfl (by decide) rfl (kX10_keep l g E h ad (zm_s (zm_s M 38 x) 41 1) x (zm_K_in (n := 0) hk)) w_1027 mX10_keep 0 rfl rfl rfl rfl hl.1 rfl (Nat.le_of_ble_eq_true rfl) dX10_character_215 ⟨by decide, by decide⟩ ⟨by decide, by decide⟩) (fun M4 H locs hM4 hP hD hS => ?_)
        have hP : va_P g.1 vwCl (zm_ws g h ad M4) H := hP
        have hD : va_D A (zm_ws g h ad M4) := hD
        subst hM4
        exact zm_rv hQ hx hb hr hlocks hK hP hD hS (by simp [zm_character, zm_charK, zq_upd, c_9, c_195, c_204]) dX10_character_218
      · refine lv_iload_n hx hb dX10_character_207 rfl (lv_at hl 1 rfl) ?_
        refine lv_bipush (v := 13) hx hb dX10_character_208 (by decide) ?_
        refine lv_icmp_eq (tgt := 218) hx hb dX10_character_210 (by decide) (fun c_210 => ?_) (fun c_210 => ?_)
        · exact zm_rv hQ hx hb hr hlocks hK hP hD hS (by simp [zm_character, zm_charK, zq_upd, c_9, c_195, eq_true c_204, eq_true c_210]) dX10_character_218
        · refine lv_aload_n hx hb dX10_character_213 rfl (lv_at hl 0 rfl) ?_
          refine lv_iload_n hx hb dX10_character_214 rfl (lv_at hl 1 rfl) ?_
          refine za_cv (wc := zm_ws g h ad (zm_s (zm_s M 38 x) 41 1)) (wr := []) C hP hD hS [0, 1, 2, 3, 4, 5, 6, 7, 8, 9, 10, 11, 12, 13, 14, 15, 16, 17] [] rfl rfl (by decide) (by decide) (za_runV C hP hD hS [0, 1, 2, 3, 4, 5, 6, 7, 8, 9, 10, 11, 12, 13, 14, 15, 16, 17] rfl (by decide) rfl (kX10_keep l g E h ad (zm_s (zm_s M 38 x) 41 1) x (zm_K_in (n := 0) hk)) w_1027 mX10_keep 0 rfl rfl rfl rfl hl.1 rfl (Nat.le_of_ble_eq_true rfl) dX10_character_215 ⟨by decide, by decide⟩ ⟨by decide, by decide⟩) (fun M5 H locs hM5 hP hD hS => ?_)
          have hP : va_P g.1 vwCl (zm_ws g h ad M5) H := hP
          have hD : va_D A (zm_ws g h ad M5) := hD
          subst hM5
          exact zm_rv hQ hx hb hr hlocks hK hP hD hS (by simp [zm_character, zm_charK, zq_upd, c_9, c_195, eq_true c_204, c_210]) dX10_character_218
set_option maxHeartbeats 4000000 in
set_option maxRecDepth 100000 in
theorem kX10_close (l : Launch) (g : za_G) (E : za_E) (h : Nat) (ad : Nat → Nat) (M : zm_M)  (hT : zm_T M) (hs : ¬ M.1 23 < 0) : za_Cv l g E yX10_close cX10_close 3 2 0 0 [.ref h] (zm_ws g h ad M) (fun u : zm_M => u = zm_close M) (fun u => zm_ws g h ad u) := by
  refine za_begin (by decide) (Nat.le_of_ble_eq_true rfl) RX10 rfl ?_
  intro p e s m args below meth co A ls Q H locs C hQ hr hlocks hnm hS hP hD hl
  obtain ⟨hx, hb, hml, hown, hts, hK, hA, hE⟩ := id C
  have hl : lv_has ls 3 [(0, .ref h)] := hl
  refine lv_aload_n hx hb dX10_close_0 rfl (lv_at hl 0 rfl) ?_
  refine va_get (ci := 9) (v := .int (M.1 32)) hx hb hts iX10 hown hK hP 0 rfl rfl 32 (by decide) (hts _ w_843) (fun _ h9 => h9) rfl dX10_close_1 ?_
  refine lv_bipush (v := 39) hx hb dX10_close_4 (by decide) ?_
  refine lv_icmp_ne (tgt := 21) hx hb dX10_close_6 (by decide) (fun c_6 => ?_) (fun c_6 => ?_)
  · refine lv_aload_n hx hb dX10_close_21 rfl (lv_at hl 0 rfl) ?_
    refine va_get (ci := 9) (v := .int (M.1 15)) hx hb hts iX10 hown hK hP 0 rfl rfl 15 (by decide) (hts _ w_826) (fun _ h9 => h9) rfl dX10_close_22 ?_
    refine lv_istore_n (lv' := [(1, .int (M.1 15)), (0, .ref h)]) hx hb dX10_close_25 rfl hl (by decide) rfl (fun ls hl => ?_)
    refine lv_aload_n hx hb dX10_close_26 rfl (lv_at hl 1 rfl) ?_
    refine va_get (ci := 9) (v := .int (M.1 42)) hx hb hts iX10 hown hK hP 0 rfl rfl 42 (by decide) (hts _ w_853) (fun _ h9 => h9) rfl dX10_close_27 ?_
    refine lv_istore_n (lv' := [(2, .int (M.1 42)), (1, .int (M.1 15)), (0, .ref h)]) hx hb dX10_close_30 rfl hl (by decide) rfl (fun ls hl => ?_)
    refine lv_aload_n hx hb dX10_close_31 rfl (lv_at hl 2 rfl) ?_
    refine lv_iload_n hx hb dX10_close_32 rfl (lv_at hl 0 rfl) ?_
    refine va_put (ci := 9) (fs := zm_fs ad M.1) (v := .int (M.1 42)) hx hb hts iX10 tyX10 tyX10_ok nmX10 hown hK hP hD hS 0 rfl rfl 15 (by decide) (hts _ w_826) (fun _ h9 => h9) rfl (tyX10_ok 15 (by decide)) rfl rfl (Nat.le_of_ble_eq_true rfl) dX10_close_33 (fun H locs hP hD hS => ?_)
    have hP := zm_pf15 (X := M) hP
    have hD := zm_df15 (X := M) hD
    refine lv_aload_n hx hb dX10_close_36 rfl (lv_at hl 2 rfl) ?_
    have J_51 : ∀ v9 : Int32, v9 = (zr_q4 (M.1 32)) → W p l e (za_R 2 0 0) s m args below meth co H locs 0 0 Q (F0 m 51 ls (.int v9 :: [.ref h])) := by
      intro v_51 hv_51
      refine lv_aload_n hx hb dX10_close_51 rfl (lv_at hl 2 rfl) ?_
      refine va_get (ci := 9) (v := .int (M.1 27)) hx hb hts iX10 hown hK hP 0 rfl rfl 27 (by decide) (hts _ w_838) (fun _ h9 => h9) rfl dX10_close_52 ?_
      refine lv_iconst (v := 1) hx hb dX10_close_55 (by decide) ?_
      refine lv_iadd hx hb dX10_close_56 ?_
      refine lv_aload_n hx hb dX10_close_57 rfl (lv_at hl 2 rfl) ?_
      refine va_get (ci := 9) (v := .int (M.1 23)) hx hb hts iX10 hown hK hP 0 rfl rfl 23 (by decide) (hts _ w_834) (fun _ h9 => h9) rfl dX10_close_58 ?_
      refine lv_isub hx hb dX10_close_61 ?_
      refine lv_iconst (v := 0) hx hb dX10_close_62 (by decide) ?_
      refine za_cv (wc := zm_ws g h ad (zm_s M 15 (M.1 42))) (wr := []) C hP hD hS [0, 1, 2, 3, 4, 5, 6, 7, 8, 9, 10, 11, 12, 13, 14, 15, 16, 17] [] rfl rfl (by decide) (by decide) (za_runV C hP hD hS [0, 1, 2, 3, 4, 5, 6, 7, 8, 9, 10, 11, 12, 13, 14, 15, 16, 17] rfl (by decide) rfl (kX10_token l g E h ad (zm_s M 15 (M.1 42)) v_51 (((M.1 27) + 1) - (M.1 23)) 0 hT) w_985 mX10_token 0 rfl rfl rfl rfl hl.1 rfl (Nat.le_of_ble_eq_true rfl) dX10_close_63 ⟨by decide, by decide⟩ ⟨by decide, by decide⟩) (fun M1 H locs hM1 hP hD hS => ?_)
      have hP : va_P g.1 vwCl (zm_ws g h ad M1) H := hP
      have hD : va_D A (zm_ws g h ad M1) := hD
      refine lv_aload_n hx hb dX10_close_66 rfl (lv_at hl 2 rfl) ?_
      refine va_get (ci := 9) (v := .int (M1.1 30)) hx hb hts iX10 hown hK hP 0 rfl rfl 30 (by decide) (hts _ w_841) (fun _ h9 => h9) rfl dX10_close_67 ?_
      refine lv_if_lt (tgt := 74) hx hb dX10_close_70 (by decide) (fun c_70 => ?_) (fun c_70 => ?_)
      · refine lv_aload_n hx hb dX10_close_74 rfl (lv_at hl 2 rfl) ?_
        refine va_get (ci := 9) (v := .int (M1.1 32)) hx hb hts iX10 hown hK hP 0 rfl rfl 32 (by decide) (hts _ w_843) (fun _ h9 => h9) rfl dX10_close_75 ?_
        refine lv_bipush (v := 39) hx hb dX10_close_78 (by decide) ?_
        refine lv_icmp_ne (tgt := 102) hx hb dX10_close_80 (by decide) (fun c_80 => ?_) (fun c_80 => ?_)
        · refine lv_aload_n hx hb dX10_close_102 rfl (lv_at hl 2 rfl) ?_
          refine lv_iload_n hx hb dX10_close_103 rfl (lv_at hl 1 rfl) ?_
          refine va_put (ci := 9) (fs := zm_fs ad M1.1) (v := .int (M.1 15)) hx hb hts iX10 tyX10 tyX10_ok nmX10 hown hK hP hD hS 0 rfl rfl 15 (by decide) (hts _ w_826) (fun _ h9 => h9) rfl (tyX10_ok 15 (by decide)) rfl rfl (Nat.le_of_ble_eq_true rfl) dX10_close_104 (fun H locs hP hD hS => ?_)
          have hP := zm_pf15 (X := M1) hP
          have hD := zm_df15 (X := M1) hD
          refine lv_aload_n hx hb dX10_close_107 rfl (lv_at hl 2 rfl) ?_
          refine va_get (ci := 9) (v := .ref (ad 13)) hx hb hts iX10 hown hK hP 0 rfl rfl 13 (by decide) (hts _ w_824) (fun _ h9 => h9) rfl dX10_close_108 ?_
          refine lv_aload_n hx hb dX10_close_111 rfl (lv_at hl 2 rfl) ?_
          refine va_get (ci := 9) (v := .int (M1.1 3)) hx hb hts iX10 hown hK hP 0 rfl rfl 3 (by decide) (hts _ w_814) (fun _ h9 => h9) rfl dX10_close_112 ?_
          refine lv_iconst (v := 1) hx hb dX10_close_115 (by decide) ?_
          refine lv_isub hx hb dX10_close_116 ?_
          refine lv_iload_n hx hb dX10_close_117 rfl (lv_at hl 1 rfl) ?_
          refine lv_iload_n hx hb dX10_close_118 rfl (lv_at hl 0 rfl) ?_
          refine lv_isub hx hb dX10_close_119 ?_
          refine va_iast (f := (zm_s M1 15 (M.1 15)).2.1 13) hx hb hK hP hD hS 11 1 rfl rfl (by subst hM1; subst hv_51; exact zm_token_pos hT hs c_70) dX10_close_120 (fun H locs hP hD hS => ?_)
          have hP := zm_pa13 (X := zm_s M1 15 (M.1 15)) hP
          have hD := zm_da13 (X := zm_s M1 15 (M.1 15)) hD
          refine lv_aload_n hx hb dX10_close_121 rfl (lv_at hl 2 rfl) ?_
          refine lv_iconst (v := 0) hx hb dX10_close_122 (by decide) ?_
          refine va_put (ci := 9) (fs := zm_fs ad (zm_a (zm_s M1 15 (M.1 15)) 13 ((M1.1 3) - 1) ((M.1 15) - (M.1 42))).1) (v := .int 0) hx hb hts iX10 tyX10 tyX10_ok nmX10 hown hK hP hD hS 0 rfl rfl 21 (by decide) (hts _ w_832) (fun _ h9 => h9) rfl (tyX10_ok 21 (by decide)) rfl rfl (Nat.le_of_ble_eq_true rfl) dX10_close_123 (fun H locs hP hD hS => ?_)
          have hP := zm_pf21 (X := zm_a (zm_s M1 15 (M.1 15)) 13 ((M1.1 3) - 1) ((M.1 15) - (M.1 42))) hP
          have hD := zm_df21 (X := zm_a (zm_s M1 15 (M.1 15)) 13 ((M1.1 3) - 1) ((M.1 15) - (M.1 42))) hD
          subst hM1
          subst hv_51
          exact zm_rv hQ hx hb hr hlocks hK hP hD hS (by simp [zm_close, zq_upd, c_6, c_70, c_80]) dX10_close_126
        · refine lv_aload_n hx hb dX10_close_83 rfl (lv_at hl 2 rfl) ?_
          refine va_get (ci := 9) (v := .ref (ad 14)) hx hb hts iX10 hown hK hP 0 rfl rfl 14 (by decide) (hts _ w_825) (fun _ h9 => h9) rfl dX10_close_84 ?_
          refine lv_aload_n hx hb dX10_close_87 rfl (lv_at hl 2 rfl) ?_
          refine va_get (ci := 9) (v := .int (M1.1 3)) hx hb hts iX10 hown hK hP 0 rfl rfl 3 (by decide) (hts _ w_814) (fun _ h9 => h9) rfl dX10_close_88 ?_
          refine lv_iconst (v := 1) hx hb dX10_close_91 (by decide) ?_
          refine lv_isub hx hb dX10_close_92 ?_
          refine lv_aload_n hx hb dX10_close_93 rfl (lv_at hl 2 rfl) ?_
          refine va_get (ci := 9) (v := .int (M1.1 38)) hx hb hts iX10 hown hK hP 0 rfl rfl 38 (by decide) (hts _ w_849) (fun _ h9 => h9) rfl dX10_close_94 ?_
          refine lv_i2l (v := (M1.1 38).toInt64) hx hb dX10_close_97 rfl ?_
          refine va_last (f := M1.2.2) hx hb hK hP hD hS 12 2 rfl rfl (by subst hM1; subst hv_51; exact zm_token_pos hT hs c_70) dX10_close_98 (fun H locs hP hD hS => ?_)
          have hP := zm_pa14 (X := M1) hP
          have hD := zm_da14 (X := M1) hD
          refine lv_goto (tgt := 121) hx hb dX10_close_99 (by decide) ?_
          refine lv_aload_n hx hb dX10_close_121 rfl (lv_at hl 2 rfl) ?_
          refine lv_iconst (v := 0) hx hb dX10_close_122 (by decide) ?_
          refine va_put (ci := 9) (fs := zm_fs ad (zm_v M1 ((M1.1 3) - 1) ((M1.1 38).toInt64)).1) (v := .int 0) hx hb hts iX10 tyX10 tyX10_ok nmX10 hown hK hP hD hS 0 rfl rfl 21 (by decide) (hts _ w_832) (fun _ h9 => h9) rfl (tyX10_ok 21 (by decide)) rfl rfl (Nat.le_of_ble_eq_true rfl) dX10_close_123 (fun H locs hP hD hS => ?_)
          have hP := zm_pf21 (X := zm_v M1 ((M1.1 3) - 1) ((M1.1 38).toInt64)) hP
          have hD := zm_df21 (X := zm_v M1 ((M1.1 3) - 1) ((M1.1 38).toInt64)) hD
          subst hM1
          subst hv_51
          exact zm_rv hQ hx hb hr hlocks hK hP hD hS (by simp [zm_close, zq_upd, c_6, c_70, eq_true c_80]) dX10_close_126
      · subst hM1
        subst hv_51
        exact zm_rv hQ hx hb hr hlocks hK hP hD hS (by simp [zm_close, zq_upd, c_6, c_70]) dX10_close_73
    refine lv_aload_n hx hb dX10_close_37 rfl (lv_at hl 2 rfl) ?_
    refine va_get (ci := 9) (v := .int (M.1 32)) hx hb hts iX10 hown hK hP 0 rfl rfl 32 (by decide) (hts _ w_843) (fun _ h9 => h9) rfl dX10_close_38 ?_
    refine lv_bipush (v := 39) hx hb dX10_close_41 (by decide) ?_
    refine lv_icmp_ne (tgt := 50) hx hb dX10_close_43 (by decide) (fun c_43 => ?_) (fun c_43 => ?_)
    · refine lv_iconst (v := 5) hx hb dX10_close_50 (by decide) ?_
      exact J_51 5 (by simp [zr_q4, c_6, c_43])
    · exact absurd c_43 c_6
  · refine lv_aload_n hx hb dX10_close_9 rfl (lv_at hl 0 rfl) ?_
    refine va_get (ci := 9) (v := .int (M.1 41)) hx hb hts iX10 hown hK hP 0 rfl rfl 41 (by decide) (hts _ w_852) (fun _ h9 => h9) rfl dX10_close_10 ?_
    refine lv_if_ne (tgt := 21) hx hb dX10_close_13 (by decide) (fun c_13 => ?_) (fun c_13 => ?_)
    · refine lv_aload_n hx hb dX10_close_21 rfl (lv_at hl 0 rfl) ?_
      refine va_get (ci := 9) (v := .int (M.1 15)) hx hb hts iX10 hown hK hP 0 rfl rfl 15 (by decide) (hts _ w_826) (fun _ h9 => h9) rfl dX10_close_22 ?_
      refine lv_istore_n (lv' := [(1, .int (M.1 15)), (0, .ref h)]) hx hb dX10_close_25 rfl hl (by decide) rfl (fun ls hl => ?_)
      refine lv_aload_n hx hb dX10_close_26 rfl (lv_at hl 1 rfl) ?_
      refine va_get (ci := 9) (v := .int (M.1 42)) hx hb hts iX10 hown hK hP 0 rfl rfl 42 (by decide) (hts _ w_853) (fun _ h9 => h9) rfl dX10_close_27 ?_
      refine lv_istore_n (lv' := [(2, .int (M.1 42)), (1, .int (M.1 15)), (0, .ref h)]) hx hb dX10_close_30 rfl hl (by decide) rfl (fun ls hl => ?_)
      refine lv_aload_n hx hb dX10_close_31 rfl (lv_at hl 2 rfl) ?_
      refine lv_iload_n hx hb dX10_close_32 rfl (lv_at hl 0 rfl) ?_
      refine va_put (ci := 9) (fs := zm_fs ad M.1) (v := .int (M.1 42)) hx hb hts iX10 tyX10 tyX10_ok nmX10 hown hK hP hD hS 0 rfl rfl 15 (by decide) (hts _ w_826) (fun _ h9 => h9) rfl (tyX10_ok 15 (by decide)) rfl rfl (Nat.le_of_ble_eq_true rfl) dX10_close_33 (fun H locs hP hD hS => ?_)
      have hP := zm_pf15 (X := M) hP
      have hD := zm_df15 (X := M) hD
      refine lv_aload_n hx hb dX10_close_36 rfl (lv_at hl 2 rfl) ?_
      have J_51 : ∀ v9 : Int32, v9 = (zr_q4 (M.1 32)) → W p l e (za_R 2 0 0) s m args below meth co H locs 0 0 Q (F0 m 51 ls (.int v9 :: [.ref h])) := by
        intro v_51 hv_51
        refine lv_aload_n hx hb dX10_close_51 rfl (lv_at hl 2 rfl) ?_
        refine va_get (ci := 9) (v := .int (M.1 27)) hx hb hts iX10 hown hK hP 0 rfl rfl 27 (by decide) (hts _ w_838) (fun _ h9 => h9) rfl dX10_close_52 ?_
        refine lv_iconst (v := 1) hx hb dX10_close_55 (by decide) ?_
        refine lv_iadd hx hb dX10_close_56 ?_
        refine lv_aload_n hx hb dX10_close_57 rfl (lv_at hl 2 rfl) ?_
        refine va_get (ci := 9) (v := .int (M.1 23)) hx hb hts iX10 hown hK hP 0 rfl rfl 23 (by decide) (hts _ w_834) (fun _ h9 => h9) rfl dX10_close_58 ?_
        refine lv_isub hx hb dX10_close_61 ?_
        refine lv_iconst (v := 0) hx hb dX10_close_62 (by decide) ?_
        refine za_cv (wc := zm_ws g h ad (zm_s M 15 (M.1 42))) (wr := []) C hP hD hS [0, 1, 2, 3, 4, 5, 6, 7, 8, 9, 10, 11, 12, 13, 14, 15, 16, 17] [] rfl rfl (by decide) (by decide) (za_runV C hP hD hS [0, 1, 2, 3, 4, 5, 6, 7, 8, 9, 10, 11, 12, 13, 14, 15, 16, 17] rfl (by decide) rfl (kX10_token l g E h ad (zm_s M 15 (M.1 42)) v_51 (((M.1 27) + 1) - (M.1 23)) 0 hT) w_985 mX10_token 0 rfl rfl rfl rfl hl.1 rfl (Nat.le_of_ble_eq_true rfl) dX10_close_63 ⟨by decide, by decide⟩ ⟨by decide, by decide⟩) (fun M2 H locs hM2 hP hD hS => ?_)
        have hP : va_P g.1 vwCl (zm_ws g h ad M2) H := hP
        have hD : va_D A (zm_ws g h ad M2) := hD
        refine lv_aload_n hx hb dX10_close_66 rfl (lv_at hl 2 rfl) ?_
        refine va_get (ci := 9) (v := .int (M2.1 30)) hx hb hts iX10 hown hK hP 0 rfl rfl 30 (by decide) (hts _ w_841) (fun _ h9 => h9) rfl dX10_close_67 ?_
        refine lv_if_lt (tgt := 74) hx hb dX10_close_70 (by decide) (fun c_70 => ?_) (fun c_70 => ?_)
        · refine lv_aload_n hx hb dX10_close_74 rfl (lv_at hl 2 rfl) ?_
          refine va_get (ci := 9) (v := .int (M2.1 32)) hx hb hts iX10 hown hK hP 0 rfl rfl 32 (by decide) (hts _ w_843) (fun _ h9 => h9) rfl dX10_close_75 ?_
          refine lv_bipush (v := 39) hx hb dX10_close_78 (by decide) ?_
          refine lv_icmp_ne (tgt := 102) hx hb dX10_close_80 (by decide) (fun c_80 => ?_) (fun c_80 => ?_)
          · refine lv_aload_n hx hb dX10_close_102 rfl (lv_at hl 2 rfl) ?_
            refine lv_iload_n hx hb dX10_close_103 rfl (lv_at hl 1 rfl) ?_
            refine va_put (ci := 9) (fs := zm_fs ad M2.1) (v := .int (M.1 15)) hx hb hts iX10 tyX10 tyX10_ok nmX10 hown hK hP hD hS 0 rfl rfl 15 (by decide) (hts _ w_826) (fun _ h9 => h9) rfl (tyX10_ok 15 (by decide)) rfl rfl (Nat.le_of_ble_eq_true rfl) dX10_close_104 (fun H locs hP hD hS => ?_)
            have hP := zm_pf15 (X := M2) hP
            have hD := zm_df15 (X := M2) hD
            refine lv_aload_n hx hb dX10_close_107 rfl (lv_at hl 2 rfl) ?_
            refine va_get (ci := 9) (v := .ref (ad 13)) hx hb hts iX10 hown hK hP 0 rfl rfl 13 (by decide) (hts _ w_824) (fun _ h9 => h9) rfl dX10_close_108 ?_
            refine lv_aload_n hx hb dX10_close_111 rfl (lv_at hl 2 rfl) ?_
            refine va_get (ci := 9) (v := .int (M2.1 3)) hx hb hts iX10 hown hK hP 0 rfl rfl 3 (by decide) (hts _ w_814) (fun _ h9 => h9) rfl dX10_close_112 ?_
            refine lv_iconst (v := 1) hx hb dX10_close_115 (by decide) ?_
            refine lv_isub hx hb dX10_close_116 ?_
            refine lv_iload_n hx hb dX10_close_117 rfl (lv_at hl 1 rfl) ?_
            refine lv_iload_n hx hb dX10_close_118 rfl (lv_at hl 0 rfl) ?_
            refine lv_isub hx hb dX10_close_119 ?_
            refine va_iast (f := (zm_s M2 15 (M.1 15)).2.1 13) hx hb hK hP hD hS 11 1 rfl rfl (by subst hM2; subst hv_51; exact zm_token_pos hT hs c_70) dX10_close_120 (fun H locs hP hD hS => ?_)
            have hP := zm_pa13 (X := zm_s M2 15 (M.1 15)) hP
            have hD := zm_da13 (X := zm_s M2 15 (M.1 15)) hD
            refine lv_aload_n hx hb dX10_close_121 rfl (lv_at hl 2 rfl) ?_
            refine lv_iconst (v := 0) hx hb dX10_close_122 (by decide) ?_
            refine va_put (ci := 9) (fs := zm_fs ad (zm_a (zm_s M2 15 (M.1 15)) 13 ((M2.1 3) - 1) ((M.1 15) - (M.1 42))).1) (v := .int 0) hx hb hts iX10 tyX10 tyX10_ok nmX10 hown hK hP hD hS 0 rfl rfl 21 (by decide) (hts _ w_832) (fun _ h9 => h9) rfl (tyX10_ok 21 (by decide)) rfl rfl (Nat.le_of_ble_eq_true rfl) dX10_close_123 (fun H locs hP hD hS => ?_)
            have hP := zm_pf21 (X := zm_a (zm_s M2 15 (M.1 15)) 13 ((M2.1 3) - 1) ((M.1 15) - (M.1 42))) hP
            have hD := zm_df21 (X := zm_a (zm_s M2 15 (M.1 15)) 13 ((M2.1 3) - 1) ((M.1 15) - (M.1 42))) hD
            subst hM2
            subst hv_51
            exact zm_rv hQ hx hb hr hlocks hK hP hD hS (by simp [zm_close, zq_upd, eq_true c_6, c_13, c_70, c_80]) dX10_close_126
          · refine lv_aload_n hx hb dX10_close_83 rfl (lv_at hl 2 rfl) ?_
            refine va_get (ci := 9) (v := .ref (ad 14)) hx hb hts iX10 hown hK hP 0 rfl rfl 14 (by decide) (hts _ w_825) (fun _ h9 => h9) rfl dX10_close_84 ?_
            refine lv_aload_n hx hb dX10_close_87 rfl (lv_at hl 2 rfl) ?_
            refine va_get (ci := 9) (v := .int (M2.1 3)) hx hb hts iX10 hown hK hP 0 rfl rfl 3 (by decide) (hts _ w_814) (fun _ h9 => h9) rfl dX10_close_88 ?_
            refine lv_iconst (v := 1) hx hb dX10_close_91 (by decide) ?_
            refine lv_isub hx hb dX10_close_92 ?_
            refine lv_aload_n hx hb dX10_close_93 rfl (lv_at hl 2 rfl) ?_
            refine va_get (ci := 9) (v := .int (M2.1 38)) hx hb hts iX10 hown hK hP 0 rfl rfl 38 (by decide) (hts _ w_849) (fun _ h9 => h9) rfl dX10_close_94 ?_
            refine lv_i2l (v := (M2.1 38).toInt64) hx hb dX10_close_97 rfl ?_
            refine va_last (f := M2.2.2) hx hb hK hP hD hS 12 2 rfl rfl (by subst hM2; subst hv_51; exact zm_token_pos hT hs c_70) dX10_close_98 (fun H locs hP hD hS => ?_)
            have hP := zm_pa14 (X := M2) hP
            have hD := zm_da14 (X := M2) hD
            refine lv_goto (tgt := 121) hx hb dX10_close_99 (by decide) ?_
            refine lv_aload_n hx hb dX10_close_121 rfl (lv_at hl 2 rfl) ?_
            refine lv_iconst (v := 0) hx hb dX10_close_122 (by decide) ?_
            refine va_put (ci := 9) (fs := zm_fs ad (zm_v M2 ((M2.1 3) - 1) ((M2.1 38).toInt64)).1) (v := .int 0) hx hb hts iX10 tyX10 tyX10_ok nmX10 hown hK hP hD hS 0 rfl rfl 21 (by decide) (hts _ w_832) (fun _ h9 => h9) rfl (tyX10_ok 21 (by decide)) rfl rfl (Nat.le_of_ble_eq_true rfl) dX10_close_123 (fun H locs hP hD hS => ?_)
            have hP := zm_pf21 (X := zm_v M2 ((M2.1 3) - 1) ((M2.1 38).toInt64)) hP
            have hD := zm_df21 (X := zm_v M2 ((M2.1 3) - 1) ((M2.1 38).toInt64)) hD
            subst hM2
            subst hv_51
            exact zm_rv hQ hx hb hr hlocks hK hP hD hS (by simp [zm_close, zq_upd, eq_true c_6, c_13, c_70, eq_true c_80]) dX10_close_126
        · subst hM2
          subst hv_51
          exact zm_rv hQ hx hb hr hlocks hK hP hD hS (by simp [zm_close, zq_upd, eq_true c_6, c_13, c_70]) dX10_close_73
      refine lv_aload_n hx hb dX10_close_37 rfl (lv_at hl 2 rfl) ?_
      refine va_get (ci := 9) (v := .int (M.1 32)) hx hb hts iX10 hown hK hP 0 rfl rfl 32 (by decide) (hts _ w_843) (fun _ h9 => h9) rfl dX10_close_38 ?_
      refine lv_bipush (v := 39) hx hb dX10_close_41 (by decide) ?_
      refine lv_icmp_ne (tgt := 50) hx hb dX10_close_43 (by decide) (fun c_43 => ?_) (fun c_43 => ?_)
      · exact absurd c_6 c_43
      · refine lv_iconst (v := 4) hx hb dX10_close_46 (by decide) ?_
        refine lv_goto (tgt := 51) hx hb dX10_close_47 (by decide) ?_
        exact J_51 4 (by simp [zr_q4, eq_true c_6, c_13, eq_true c_43])
    · refine lv_aload_n hx hb dX10_close_16 rfl (lv_at hl 0 rfl) ?_
      refine za_cv (wc := zm_ws g h ad M) (wr := []) C hP hD hS [0, 1, 2, 3, 4, 5, 6, 7, 8, 9, 10, 11, 12, 13, 14, 15, 16, 17] [] rfl rfl (by decide) (by decide) (za_runV C hP hD hS [0, 1, 2, 3, 4, 5, 6, 7, 8, 9, 10, 11, 12, 13, 14, 15, 16, 17] rfl (by decide) rfl (kX10_error l g E h ad M  ) w_1010 mX10_error 0 rfl rfl rfl rfl hl.1 rfl (Nat.le_of_ble_eq_true rfl) dX10_close_17 ⟨by decide, by decide⟩ ⟨by decide, by decide⟩) (fun M3 H locs hM3 hP hD hS => ?_)
      have hP : va_P g.1 vwCl (zm_ws g h ad M3) H := hP
      have hD : va_D A (zm_ws g h ad M3) := hD
      subst hM3
      exact zm_rv hQ hx hb hr hlocks hK hP hD hS (by simp [zm_close, zq_upd, eq_true c_6, eq_true c_13]) dX10_close_20
set_option maxHeartbeats 4000000 in
set_option maxRecDepth 100000 in
theorem kX10_slash (l : Launch) (g : za_G) (E : za_E) (h : Nat) (ad : Nat → Nat) (M : zm_M) (x : Int32) (k : Nat) (hT : zm_T M) (hn : M.1 27 - M.1 23 = nI k) (hk : k < 65536) (hq : ∀ j : Nat, j < k → vp_in (M.1 23 + nI j) 65536) : za_Cv l g E yX10_slash cX10_slash 5 7 0 0 [.ref h, .int x] (zm_ws g h ad M) (fun u : zm_M => u = zm_slash M x) (fun u => zm_ws g h ad u) := by
  refine za_begin (by decide) (Nat.le_of_ble_eq_true rfl) RX10 rfl ?_
  intro p e s m args below meth co A ls Q H locs C hQ hr hlocks hnm hS hP hD hl
  obtain ⟨hx, hb, hml, hown, hts, hK, hA, hE⟩ := id C
  have hl : lv_has ls 5 [(0, .ref h), (1, .int x)] := hl
  refine lv_iload_n hx hb dX10_slash_0 rfl (lv_at hl 1 rfl) ?_
  refine lv_bipush (v := 47) hx hb dX10_slash_1 (by decide) ?_
  refine lv_icmp_eq (tgt := 12) hx hb dX10_slash_3 (by decide) (fun c_3 => ?_) (fun c_3 => ?_)
  · refine lv_aload_n hx hb dX10_slash_12 rfl (lv_at hl 0 rfl) ?_
    refine va_get (ci := 9) (v := .int (M.1 23)) hx hb hts iX10 hown hK hP 0 rfl rfl 23 (by decide) (hts _ w_834) (fun _ h9 => h9) rfl dX10_slash_13 ?_
    refine lv_istore_n (lv' := [(2, .int (M.1 23)), (0, .ref h), (1, .int x)]) hx hb dX10_slash_16 rfl hl (by decide) rfl (fun ls hl => ?_)
    refine lv_aload_n hx hb dX10_slash_17 rfl (lv_at hl 1 rfl) ?_
    refine va_get (ci := 9) (v := .int (M.1 24)) hx hb hts iX10 hown hK hP 0 rfl rfl 24 (by decide) (hts _ w_835) (fun _ h9 => h9) rfl dX10_slash_18 ?_
    refine lv_istore_n (lv' := [(3, .int (M.1 24)), (2, .int (M.1 23)), (0, .ref h), (1, .int x)]) hx hb dX10_slash_21 rfl hl (by decide) rfl (fun ls hl => ?_)
    refine lv_aload_n hx hb dX10_slash_22 rfl (lv_at hl 2 rfl) ?_
    refine va_get (ci := 9) (v := .int (M.1 25)) hx hb hts iX10 hown hK hP 0 rfl rfl 25 (by decide) (hts _ w_836) (fun _ h9 => h9) rfl dX10_slash_23 ?_
    refine lv_istore (lv' := [(4, .int (M.1 25)), (3, .int (M.1 24)), (2, .int (M.1 23)), (0, .ref h), (1, .int x)]) hx hb dX10_slash_26 hl (by decide) rfl (fun ls hl => ?_)
    refine lv_aload_n hx hb dX10_slash_28 rfl (lv_at hl 3 rfl) ?_
    refine lv_iconst (v := 0) hx hb dX10_slash_29 (by decide) ?_
    have J_43 : ∀ v9 : Int32, v9 = (zr_sl x) → W p l e (za_R 7 0 0) s m args below meth co H locs 0 0 Q (F0 m 43 ls (.int v9 :: [.int 0, .ref h])) := by
      intro v_43 hv_43
      refine za_cv (wc := zm_ws g h ad M) (wr := []) C hP hD hS [0, 1, 2, 3, 4, 5, 6, 7, 8, 9, 10, 11, 12, 13, 14, 15, 16, 17] [] rfl rfl (by decide) (by decide) (za_runV C hP hD hS [0, 1, 2, 3, 4, 5, 6, 7, 8, 9, 10, 11, 12, 13, 14, 15, 16, 17] rfl (by decide) rfl (kX10_opens l g E h ad M 0 v_43 ) w_999 mX10_opens 0 rfl rfl rfl rfl hl.1 rfl (Nat.le_of_ble_eq_true rfl) dX10_slash_43 ⟨by decide, by decide⟩ ⟨by decide, by decide⟩) (fun M1 H locs hM1 hP hD hS => ?_)
      have hP : va_P g.1 vwCl (zm_ws g h ad M1) H := hP
      have hD : va_D A (zm_ws g h ad M1) := hD
      refine lv_aload_n hx hb dX10_slash_46 rfl (lv_at hl 3 rfl) ?_
      refine lv_iload_n hx hb dX10_slash_47 rfl (lv_at hl 2 rfl) ?_
      refine va_put (ci := 9) (fs := zm_fs ad M1.1) (v := .int (M.1 23)) hx hb hts iX10 tyX10 tyX10_ok nmX10 hown hK hP hD hS 0 rfl rfl 23 (by decide) (hts _ w_834) (fun _ h9 => h9) rfl (tyX10_ok 23 (by decide)) rfl rfl (Nat.le_of_ble_eq_true rfl) dX10_slash_48 (fun H locs hP hD hS => ?_)
      have hP := zm_pf23 (X := M1) hP
      have hD := zm_df23 (X := M1) hD
      refine lv_aload_n hx hb dX10_slash_51 rfl (lv_at hl 3 rfl) ?_
      refine lv_iload_n hx hb dX10_slash_52 rfl (lv_at hl 1 rfl) ?_
      refine va_put (ci := 9) (fs := zm_fs ad (zm_s M1 23 (M.1 23)).1) (v := .int (M.1 24)) hx hb hts iX10 tyX10 tyX10_ok nmX10 hown hK hP hD hS 0 rfl rfl 24 (by decide) (hts _ w_835) (fun _ h9 => h9) rfl (tyX10_ok 24 (by decide)) rfl rfl (Nat.le_of_ble_eq_true rfl) dX10_slash_53 (fun H locs hP hD hS => ?_)
      have hP := zm_pf24 (X := zm_s M1 23 (M.1 23)) hP
      have hD := zm_df24 (X := zm_s M1 23 (M.1 23)) hD
      refine lv_aload_n hx hb dX10_slash_56 rfl (lv_at hl 3 rfl) ?_
      refine lv_iload hx hb dX10_slash_57 (lv_at hl 0 rfl) ?_
      refine va_put (ci := 9) (fs := zm_fs ad (zm_s (zm_s M1 23 (M.1 23)) 24 (M.1 24)).1) (v := .int (M.1 25)) hx hb hts iX10 tyX10 tyX10_ok nmX10 hown hK hP hD hS 0 rfl rfl 25 (by decide) (hts _ w_836) (fun _ h9 => h9) rfl (tyX10_ok 25 (by decide)) rfl rfl (Nat.le_of_ble_eq_true rfl) dX10_slash_59 (fun H locs hP hD hS => ?_)
      have hP := zm_pf25 (X := zm_s (zm_s M1 23 (M.1 23)) 24 (M.1 24)) hP
      have hD := zm_df25 (X := zm_s (zm_s M1 23 (M.1 23)) 24 (M.1 24)) hD
      refine lv_aload_n hx hb dX10_slash_62 rfl (lv_at hl 3 rfl) ?_
      refine lv_iconst (v := 0) hx hb dX10_slash_63 (by decide) ?_
      refine va_put (ci := 9) (fs := zm_fs ad (zm_s (zm_s (zm_s M1 23 (M.1 23)) 24 (M.1 24)) 25 (M.1 25)).1) (v := .int 0) hx hb hts iX10 tyX10 tyX10_ok nmX10 hown hK hP hD hS 0 rfl rfl 31 (by decide) (hts _ w_842) (fun _ h9 => h9) rfl (tyX10_ok 31 (by decide)) rfl rfl (Nat.le_of_ble_eq_true rfl) dX10_slash_64 (fun H locs hP hD hS => ?_)
      have hP := zm_pf31 (X := zm_s (zm_s (zm_s M1 23 (M.1 23)) 24 (M.1 24)) 25 (M.1 25)) hP
      have hD := zm_df31 (X := zm_s (zm_s (zm_s M1 23 (M.1 23)) 24 (M.1 24)) 25 (M.1 25)) hD
      refine lv_iload_n hx hb dX10_slash_67 rfl (lv_at hl 4 rfl) ?_
      refine lv_bipush (v := 47) hx hb dX10_slash_68 (by decide) ?_
      refine lv_icmp_ne (tgt := 77) hx hb dX10_slash_70 (by decide) (fun c_70 => ?_) (fun c_70 => ?_)
      · exact absurd c_3 c_70
      · refine lv_aload_n hx hb dX10_slash_73 rfl (lv_at hl 3 rfl) ?_
        refine za_cv (wc := zm_ws g h ad (zm_s (zm_s (zm_s (zm_s M1 23 (M.1 23)) 24 (M.1 24)) 25 (M.1 25)) 31 0)) (wr := []) C hP hD hS [0, 1, 2, 3, 4, 5, 6, 7, 8, 9, 10, 11, 12, 13, 14, 15, 16, 17] [] rfl rfl (by decide) (by decide) (za_runV C hP hD hS [0, 1, 2, 3, 4, 5, 6, 7, 8, 9, 10, 11, 12, 13, 14, 15, 16, 17] rfl (by decide) rfl (kX10_semicolon l g E h ad (zm_s (zm_s (zm_s (zm_s M1 23 (M.1 23)) 24 (M.1 24)) 25 (M.1 25)) 31 0)  (by rw [hM1]; exact hT)) w_981 mX10_semicolon 0 rfl rfl rfl rfl hl.1 rfl (Nat.le_of_ble_eq_true rfl) dX10_slash_74 ⟨by decide, by decide⟩ ⟨by decide, by decide⟩) (fun M2 H locs hM2 hP hD hS => ?_)
        have hP : va_P g.1 vwCl (zm_ws g h ad M2) H := hP
        have hD : va_D A (zm_ws g h ad M2) := hD
        subst hM2
        subst hM1
        subst hv_43
        exact zm_rv hQ hx hb hr hlocks hK hP hD hS (by simp [zm_slash, zq_upd, eq_true c_3, eq_true c_70]) dX10_slash_77
    refine lv_iload_n hx hb dX10_slash_30 rfl (lv_at hl 4 rfl) ?_
    refine lv_bipush (v := 47) hx hb dX10_slash_31 (by decide) ?_
    refine lv_icmp_ne (tgt := 41) hx hb dX10_slash_33 (by decide) (fun c_33 => ?_) (fun c_33 => ?_)
    · exact absurd c_3 c_33
    · refine lv_bipush (v := 18) hx hb dX10_slash_36 (by decide) ?_
      refine lv_goto (tgt := 43) hx hb dX10_slash_38 (by decide) ?_
      exact J_43 18 (by simp [zr_sl, eq_true c_3, eq_true c_33])
  · refine lv_iload_n hx hb dX10_slash_6 rfl (lv_at hl 1 rfl) ?_
    refine lv_bipush (v := 42) hx hb dX10_slash_7 (by decide) ?_
    refine lv_icmp_ne (tgt := 78) hx hb dX10_slash_9 (by decide) (fun c_9 => ?_) (fun c_9 => ?_)
    · refine lv_aload_n hx hb dX10_slash_78 rfl (lv_at hl 0 rfl) ?_
      refine lv_aload_n hx hb dX10_slash_79 rfl (lv_at hl 0 rfl) ?_
      refine va_get (ci := 9) (v := .int (M.1 23)) hx hb hts iX10 hown hK hP 0 rfl rfl 23 (by decide) (hts _ w_834) (fun _ h9 => h9) rfl dX10_slash_80 ?_
      refine za_ci (wc := zm_ws g h ad M) (wr := []) C hP hD hS [0, 1, 2, 3, 4, 5, 6, 7, 8, 9, 10, 11, 12, 13, 14, 15, 16, 17] [] rfl rfl (by decide) (by decide) (za_runV C hP hD hS [0, 1, 2, 3, 4, 5, 6, 7, 8, 9, 10, 11, 12, 13, 14, 15, 16, 17] rfl (by decide) rfl (kX10_room l g E h ad M (M.1 23) ) w_989 mX10_room 0 rfl rfl rfl rfl hl.1 rfl (Nat.le_of_ble_eq_true rfl) dX10_slash_83 ⟨by decide, by decide⟩ ⟨by decide, by decide⟩) (fun r3 M3 H locs hM3 hP hD hS => ?_)
      obtain ⟨hr3, hM3⟩ := hM3
      have hP : va_P g.1 vwCl (zm_ws g h ad M3) H := hP
      have hD : va_D A (zm_ws g h ad M3) := hD
      refine lv_if_ne (tgt := 90) hx hb dX10_slash_86 (by decide) (fun c_86 => ?_) (fun c_86 => ?_)
      · refine lv_aload_n hx hb dX10_slash_90 rfl (lv_at hl 0 rfl) ?_
        refine lv_bipush (v := 14) hx hb dX10_slash_91 (by decide) ?_
        refine va_put (ci := 9) (fs := zm_fs ad M3.1) (v := .int 14) hx hb hts iX10 tyX10 tyX10_ok nmX10 hown hK hP hD hS 0 rfl rfl 21 (by decide) (hts _ w_832) (fun _ h9 => h9) rfl (tyX10_ok 21 (by decide)) rfl rfl (Nat.le_of_ble_eq_true rfl) dX10_slash_93 (fun H locs hP hD hS => ?_)
        have hP := zm_pf21 (X := M3) hP
        have hD := zm_df21 (X := M3) hD
        refine lv_aload_n hx hb dX10_slash_96 rfl (lv_at hl 0 rfl) ?_
        refine lv_iload_n hx hb dX10_slash_97 rfl (lv_at hl 1 rfl) ?_
        refine za_cv (wc := zm_ws g h ad (zm_s M3 21 14)) (wr := []) C hP hD hS [0, 1, 2, 3, 4, 5, 6, 7, 8, 9, 10, 11, 12, 13, 14, 15, 16, 17] [] rfl rfl (by decide) (by decide) (za_runV C hP hD hS [0, 1, 2, 3, 4, 5, 6, 7, 8, 9, 10, 11, 12, 13, 14, 15, 16, 17] rfl (by decide) rfl (kX10_sign l g E h ad (zm_s M3 21 14) x k (by rw [hM3]; exact zm_T_room hT) (by rw [hM3]; exact hn ▸ zm_room_sg) hk (by rw [hM3]; exact zm_room_sq hq)) w_1058 mX10_sign 0 rfl rfl rfl rfl hl.1 rfl (Nat.le_of_ble_eq_true rfl) dX10_slash_98 ⟨by decide, by decide⟩ ⟨by decide, by decide⟩) (fun M4 H locs hM4 hP hD hS => ?_)
        have hP : va_P g.1 vwCl (zm_ws g h ad M4) H := hP
        have hD : va_D A (zm_ws g h ad M4) := hD
        subst hM4
        subst hM3
        subst hr3
        exact zm_rv hQ hx hb hr hlocks hK hP hD hS (by simp [zm_slash, zq_upd, c_3, c_9, c_86]) dX10_slash_101
      · subst hM3
        subst hr3
        exact zm_rv hQ hx hb hr hlocks hK hP hD hS (by simp [zm_slash, zq_upd, c_3, c_9, eq_true c_86]) dX10_slash_89
    · refine lv_aload_n hx hb dX10_slash_12 rfl (lv_at hl 0 rfl) ?_
      refine va_get (ci := 9) (v := .int (M.1 23)) hx hb hts iX10 hown hK hP 0 rfl rfl 23 (by decide) (hts _ w_834) (fun _ h9 => h9) rfl dX10_slash_13 ?_
      refine lv_istore_n (lv' := [(2, .int (M.1 23)), (0, .ref h), (1, .int x)]) hx hb dX10_slash_16 rfl hl (by decide) rfl (fun ls hl => ?_)
      refine lv_aload_n hx hb dX10_slash_17 rfl (lv_at hl 1 rfl) ?_
      refine va_get (ci := 9) (v := .int (M.1 24)) hx hb hts iX10 hown hK hP 0 rfl rfl 24 (by decide) (hts _ w_835) (fun _ h9 => h9) rfl dX10_slash_18 ?_
      refine lv_istore_n (lv' := [(3, .int (M.1 24)), (2, .int (M.1 23)), (0, .ref h), (1, .int x)]) hx hb dX10_slash_21 rfl hl (by decide) rfl (fun ls hl => ?_)
      refine lv_aload_n hx hb dX10_slash_22 rfl (lv_at hl 2 rfl) ?_
      refine va_get (ci := 9) (v := .int (M.1 25)) hx hb hts iX10 hown hK hP 0 rfl rfl 25 (by decide) (hts _ w_836) (fun _ h9 => h9) rfl dX10_slash_23 ?_
      refine lv_istore (lv' := [(4, .int (M.1 25)), (3, .int (M.1 24)), (2, .int (M.1 23)), (0, .ref h), (1, .int x)]) hx hb dX10_slash_26 hl (by decide) rfl (fun ls hl => ?_)
      refine lv_aload_n hx hb dX10_slash_28 rfl (lv_at hl 3 rfl) ?_
      refine lv_iconst (v := 0) hx hb dX10_slash_29 (by decide) ?_
      have J_43 : ∀ v9 : Int32, v9 = (zr_sl x) → W p l e (za_R 7 0 0) s m args below meth co H locs 0 0 Q (F0 m 43 ls (.int v9 :: [.int 0, .ref h])) := by
        intro v_43 hv_43
        refine za_cv (wc := zm_ws g h ad M) (wr := []) C hP hD hS [0, 1, 2, 3, 4, 5, 6, 7, 8, 9, 10, 11, 12, 13, 14, 15, 16, 17] [] rfl rfl (by decide) (by decide) (za_runV C hP hD hS [0, 1, 2, 3, 4, 5, 6, 7, 8, 9, 10, 11, 12, 13, 14, 15, 16, 17] rfl (by decide) rfl (kX10_opens l g E h ad M 0 v_43 ) w_999 mX10_opens 0 rfl rfl rfl rfl hl.1 rfl (Nat.le_of_ble_eq_true rfl) dX10_slash_43 ⟨by decide, by decide⟩ ⟨by decide, by decide⟩) (fun M5 H locs hM5 hP hD hS => ?_)
        have hP : va_P g.1 vwCl (zm_ws g h ad M5) H := hP
        have hD : va_D A (zm_ws g h ad M5) := hD
        refine lv_aload_n hx hb dX10_slash_46 rfl (lv_at hl 3 rfl) ?_
        refine lv_iload_n hx hb dX10_slash_47 rfl (lv_at hl 2 rfl) ?_
        refine va_put (ci := 9) (fs := zm_fs ad M5.1) (v := .int (M.1 23)) hx hb hts iX10 tyX10 tyX10_ok nmX10 hown hK hP hD hS 0 rfl rfl 23 (by decide) (hts _ w_834) (fun _ h9 => h9) rfl (tyX10_ok 23 (by decide)) rfl rfl (Nat.le_of_ble_eq_true rfl) dX10_slash_48 (fun H locs hP hD hS => ?_)
        have hP := zm_pf23 (X := M5) hP
        have hD := zm_df23 (X := M5) hD
        refine lv_aload_n hx hb dX10_slash_51 rfl (lv_at hl 3 rfl) ?_
        refine lv_iload_n hx hb dX10_slash_52 rfl (lv_at hl 1 rfl) ?_
        refine va_put (ci := 9) (fs := zm_fs ad (zm_s M5 23 (M.1 23)).1) (v := .int (M.1 24)) hx hb hts iX10 tyX10 tyX10_ok nmX10 hown hK hP hD hS 0 rfl rfl 24 (by decide) (hts _ w_835) (fun _ h9 => h9) rfl (tyX10_ok 24 (by decide)) rfl rfl (Nat.le_of_ble_eq_true rfl) dX10_slash_53 (fun H locs hP hD hS => ?_)
        have hP := zm_pf24 (X := zm_s M5 23 (M.1 23)) hP
        have hD := zm_df24 (X := zm_s M5 23 (M.1 23)) hD
        refine lv_aload_n hx hb dX10_slash_56 rfl (lv_at hl 3 rfl) ?_
        refine lv_iload hx hb dX10_slash_57 (lv_at hl 0 rfl) ?_
        refine va_put (ci := 9) (fs := zm_fs ad (zm_s (zm_s M5 23 (M.1 23)) 24 (M.1 24)).1) (v := .int (M.1 25)) hx hb hts iX10 tyX10 tyX10_ok nmX10 hown hK hP hD hS 0 rfl rfl 25 (by decide) (hts _ w_836) (fun _ h9 => h9) rfl (tyX10_ok 25 (by decide)) rfl rfl (Nat.le_of_ble_eq_true rfl) dX10_slash_59 (fun H locs hP hD hS => ?_)
        have hP := zm_pf25 (X := zm_s (zm_s M5 23 (M.1 23)) 24 (M.1 24)) hP
        have hD := zm_df25 (X := zm_s (zm_s M5 23 (M.1 23)) 24 (M.1 24)) hD
        refine lv_aload_n hx hb dX10_slash_62 rfl (lv_at hl 3 rfl) ?_
        refine lv_iconst (v := 0) hx hb dX10_slash_63 (by decide) ?_
        refine va_put (ci := 9) (fs := zm_fs ad (zm_s (zm_s (zm_s M5 23 (M.1 23)) 24 (M.1 24)) 25 (M.1 25)).1) (v := .int 0) hx hb hts iX10 tyX10 tyX10_ok nmX10 hown hK hP hD hS 0 rfl rfl 31 (by decide) (hts _ w_842) (fun _ h9 => h9) rfl (tyX10_ok 31 (by decide)) rfl rfl (Nat.le_of_ble_eq_true rfl) dX10_slash_64 (fun H locs hP hD hS => ?_)
        have hP := zm_pf31 (X := zm_s (zm_s (zm_s M5 23 (M.1 23)) 24 (M.1 24)) 25 (M.1 25)) hP
        have hD := zm_df31 (X := zm_s (zm_s (zm_s M5 23 (M.1 23)) 24 (M.1 24)) 25 (M.1 25)) hD
        refine lv_iload_n hx hb dX10_slash_67 rfl (lv_at hl 4 rfl) ?_
        refine lv_bipush (v := 47) hx hb dX10_slash_68 (by decide) ?_
        refine lv_icmp_ne (tgt := 77) hx hb dX10_slash_70 (by decide) (fun c_70 => ?_) (fun c_70 => ?_)
        · subst hM5
          subst hv_43
          exact zm_rv hQ hx hb hr hlocks hK hP hD hS (by simp [zm_slash, zq_upd, c_3, eq_true c_9, c_70]) dX10_slash_77
        · exact absurd c_70 c_3
      refine lv_iload_n hx hb dX10_slash_30 rfl (lv_at hl 4 rfl) ?_
      refine lv_bipush (v := 47) hx hb dX10_slash_31 (by decide) ?_
      refine lv_icmp_ne (tgt := 41) hx hb dX10_slash_33 (by decide) (fun c_33 => ?_) (fun c_33 => ?_)
      · refine lv_bipush (v := 19) hx hb dX10_slash_41 (by decide) ?_
        exact J_43 19 (by simp [zr_sl, c_3, eq_true c_9, c_33])
      · exact absurd c_33 c_3
set_option maxHeartbeats 4000000 in
set_option maxRecDepth 100000 in
theorem kX10_named (l : Launch) (g : za_G) (E : za_E) (h : Nat) (ad : Nat → Nat) (M : zm_M) (x : Int32) (hT : zm_T M) (hB : zm_B M) (hlt : M.1 23 < M.1 27) (hN : zm_N M) : za_Cv l g E yX10_named cX10_named 2 6 0 0 [.ref h, .int x] (zm_ws g h ad M) (fun u : zm_M => u = zm_named M x) (fun u => zm_ws g h ad u) := by
  refine za_begin (by decide) (Nat.le_of_ble_eq_true rfl) RX10 rfl ?_
  intro p e s m args below meth co A ls Q H locs C hQ hr hlocks hnm hS hP hD hl
  obtain ⟨hx, hb, hml, hown, hts, hK, hA, hE⟩ := id C
  have hl : lv_has ls 2 [(0, .ref h), (1, .int x)] := hl
  refine lv_aload_n hx hb dX10_named_0 rfl (lv_at hl 0 rfl) ?_
  refine za_cv (wc := zm_ws g h ad M) (wr := []) C hP hD hS [0, 1, 2, 3, 4, 5, 6, 7, 8, 9, 10, 11, 12, 13, 14, 15, 16, 17] [] rfl rfl (by decide) (by decide) (za_runV C hP hD hS [0, 1, 2, 3, 4, 5, 6, 7, 8, 9, 10, 11, 12, 13, 14, 15, 16, 17] rfl (by decide) rfl (kX10_name l g E h ad M  hT hB hlt hN) w_1018 mX10_name 0 rfl rfl rfl rfl hl.1 rfl (Nat.le_of_ble_eq_true rfl) dX10_named_1 ⟨by decide, by decide⟩ ⟨by decide, by decide⟩) (fun M1 H locs hM1 hP hD hS => ?_)
  have hP : va_P g.1 vwCl (zm_ws g h ad M1) H := hP
  have hD : va_D A (zm_ws g h ad M1) := hD
  refine lv_aload_n hx hb dX10_named_4 rfl (lv_at hl 0 rfl) ?_
  refine lv_iconst (v := 0) hx hb dX10_named_5 (by decide) ?_
  refine va_put (ci := 9) (fs := zm_fs ad M1.1) (v := .int 0) hx hb hts iX10 tyX10 tyX10_ok nmX10 hown hK hP hD hS 0 rfl rfl 21 (by decide) (hts _ w_832) (fun _ h9 => h9) rfl (tyX10_ok 21 (by decide)) rfl rfl (Nat.le_of_ble_eq_true rfl) dX10_named_6 (fun H locs hP hD hS => ?_)
  have hP := zm_pf21 (X := M1) hP
  have hD := zm_df21 (X := M1) hD
  refine lv_aload_n hx hb dX10_named_9 rfl (lv_at hl 0 rfl) ?_
  refine lv_iload_n hx hb dX10_named_10 rfl (lv_at hl 1 rfl) ?_
  refine za_cv (wc := zm_ws g h ad (zm_s M1 21 0)) (wr := []) C hP hD hS [0, 1, 2, 3, 4, 5, 6, 7, 8, 9, 10, 11, 12, 13, 14, 15, 16, 17] [] rfl rfl (by decide) (by decide) (za_runV C hP hD hS [0, 1, 2, 3, 4, 5, 6, 7, 8, 9, 10, 11, 12, 13, 14, 15, 16, 17] rfl (by decide) rfl (kX10_gap l g E h ad (zm_s M1 21 0) x (by rw [hM1]; exact zm_T_name hT)) w_973 mX10_gap 0 rfl rfl rfl rfl hl.1 rfl (Nat.le_of_ble_eq_true rfl) dX10_named_11 ⟨by decide, by decide⟩ ⟨by decide, by decide⟩) (fun M2 H locs hM2 hP hD hS => ?_)
  have hP : va_P g.1 vwCl (zm_ws g h ad M2) H := hP
  have hD : va_D A (zm_ws g h ad M2) := hD
  subst hM2
  subst hM1
  exact zm_rv hQ hx hb hr hlocks hK hP hD hS (by simp [zm_named, zq_upd]) dX10_named_14
set_option maxHeartbeats 4000000 in
set_option maxRecDepth 100000 in
theorem kX10_ends (l : Launch) (g : za_G) (E : za_E) (h : Nat) (ad : Nat → Nat) (M : zm_M) (q : Int32) (hT : zm_T M) (hB : zm_B M) : za_Cv l g E yX10_ends cX10_ends 2 6 0 0 [.ref h, .int q] (zm_ws g h ad M) (fun u : zm_M => u = zm_ends M q) (fun u => zm_ws g h ad u) := by
  refine za_begin (by decide) (Nat.le_of_ble_eq_true rfl) RX10 rfl ?_
  intro p e s m args below meth co A ls Q H locs C hQ hr hlocks hnm hS hP hD hl
  obtain ⟨hx, hb, hml, hown, hts, hK, hA, hE⟩ := id C
  have hl : lv_has ls 2 [(0, .ref h), (1, .int q)] := hl
  refine lv_aload_n hx hb dX10_ends_0 rfl (lv_at hl 0 rfl) ?_
  refine lv_iload_n hx hb dX10_ends_1 rfl (lv_at hl 1 rfl) ?_
  refine za_cv (wc := zm_ws g h ad M) (wr := []) C hP hD hS [0, 1, 2, 3, 4, 5, 6, 7, 8, 9, 10, 11, 12, 13, 14, 15, 16, 17] [] rfl rfl (by decide) (by decide) (za_runV C hP hD hS [0, 1, 2, 3, 4, 5, 6, 7, 8, 9, 10, 11, 12, 13, 14, 15, 16, 17] rfl (by decide) rfl (kX10_number l g E h ad M q hT hB) w_1046 mX10_number 0 rfl rfl rfl rfl hl.1 rfl (Nat.le_of_ble_eq_true rfl) dX10_ends_2 ⟨by decide, by decide⟩ ⟨by decide, by decide⟩) (fun M1 H locs hM1 hP hD hS => ?_)
  have hP : va_P g.1 vwCl (zm_ws g h ad M1) H := hP
  have hD : va_D A (zm_ws g h ad M1) := hD
  refine lv_aload_n hx hb dX10_ends_5 rfl (lv_at hl 0 rfl) ?_
  refine lv_iconst (v := 0) hx hb dX10_ends_6 (by decide) ?_
  refine va_put (ci := 9) (fs := zm_fs ad M1.1) (v := .int 0) hx hb hts iX10 tyX10 tyX10_ok nmX10 hown hK hP hD hS 0 rfl rfl 21 (by decide) (hts _ w_832) (fun _ h9 => h9) rfl (tyX10_ok 21 (by decide)) rfl rfl (Nat.le_of_ble_eq_true rfl) dX10_ends_7 (fun H locs hP hD hS => ?_)
  have hP := zm_pf21 (X := M1) hP
  have hD := zm_df21 (X := M1) hD
  refine lv_aload_n hx hb dX10_ends_10 rfl (lv_at hl 0 rfl) ?_
  have J_34 : ∀ (v9 : Int32) (H : Heap) (locs : List Loc), va_P g.1 vwCl (zm_ws g h ad (zm_s M1 21 0)) H → va_S A s.heap H locs → v9 = (zr_here (zm_s M1 21 0)) → W p l e (za_R 6 0 0) s m args below meth co H locs 0 0 Q (F0 m 34 ls (.int v9 :: [.ref h])) := by
    intro v_34 H locs hP hS hv_34
    refine za_cv (wc := zm_ws g h ad (zm_s M1 21 0)) (wr := []) C hP hD hS [0, 1, 2, 3, 4, 5, 6, 7, 8, 9, 10, 11, 12, 13, 14, 15, 16, 17] [] rfl rfl (by decide) (by decide) (za_runV C hP hD hS [0, 1, 2, 3, 4, 5, 6, 7, 8, 9, 10, 11, 12, 13, 14, 15, 16, 17] rfl (by decide) rfl (kX10_gap l g E h ad (zm_s M1 21 0) v_34 (by rw [hM1]; exact zm_T_number hT)) w_973 mX10_gap 0 rfl rfl rfl rfl hl.1 rfl (Nat.le_of_ble_eq_true rfl) dX10_ends_34 ⟨by decide, by decide⟩ ⟨by decide, by decide⟩) (fun M2 H locs hM2 hP hD hS => ?_)
    have hP : va_P g.1 vwCl (zm_ws g h ad M2) H := hP
    have hD : va_D A (zm_ws g h ad M2) := hD
    subst hM2
    subst hv_34
    subst hM1
    exact zm_rv hQ hx hb hr hlocks hK hP hD hS (by simp [zm_ends, zq_upd]) dX10_ends_37
  refine lv_aload_n hx hb dX10_ends_11 rfl (lv_at hl 0 rfl) ?_
  refine va_get (ci := 9) (v := .int (M1.1 27)) hx hb hts iX10 hown hK hP 0 rfl rfl 27 (by decide) (hts _ w_838) (fun _ h9 => h9) rfl dX10_ends_12 ?_
  refine lv_aload_n hx hb dX10_ends_15 rfl (lv_at hl 0 rfl) ?_
  refine va_get (ci := 9) (v := .int (M1.1 2)) hx hb hts iX10 hown hK hP 0 rfl rfl 2 (by decide) (hts _ w_813) (fun _ h9 => h9) rfl dX10_ends_16 ?_
  refine za_icmp_ge (tgt := 33) hx hb dX10_ends_19 (by decide) (fun c_19 => ?_) (fun c_19 => ?_)
  · refine lv_iconst (v := (-1)) hx hb dX10_ends_33 (by decide) ?_
    exact J_34 (-1) H locs hP hS (by simp [zr_here, zq_upd, c_19])
  · refine lv_aload_n hx hb dX10_ends_22 rfl (lv_at hl 0 rfl) ?_
    refine lv_aload_n hx hb dX10_ends_23 rfl (lv_at hl 0 rfl) ?_
    refine va_get (ci := 9) (v := .int (M1.1 27)) hx hb hts iX10 hown hK hP 0 rfl rfl 27 (by decide) (hts _ w_838) (fun _ h9 => h9) rfl dX10_ends_24 ?_
    refine za_ci (wc := zm_ws g h ad (zm_s M1 21 0)) (wr := []) C hP hD hS [0, 1, 2, 3, 4, 5, 6, 7, 8, 9, 10, 11, 12, 13, 14, 15, 16, 17] [] rfl rfl (by decide) (by decide) (za_runV C hP hD hS [0, 1, 2, 3, 4, 5, 6, 7, 8, 9, 10, 11, 12, 13, 14, 15, 16, 17] rfl (by decide) rfl (kX10_byteAt l g E h ad (zm_s M1 21 0) (M1.1 27) (by rw [hM1]; exact zm_B_at (zm_number_27 hB))) w_965 mX10_byteAt 0 rfl rfl rfl rfl hl.1 rfl (Nat.le_of_ble_eq_true rfl) dX10_ends_27 ⟨by decide, by decide⟩ ⟨by decide, by decide⟩) (fun r3 _ H locs hr3 hP hD hS => ?_)
    have hP : va_P g.1 vwCl (zm_ws g h ad (zm_s M1 21 0)) H := hP
    have hD : va_D A (zm_ws g h ad (zm_s M1 21 0)) := hD
    refine lv_goto (tgt := 34) hx hb dX10_ends_30 (by decide) ?_
    exact J_34 r3 H locs hP hS (by simp [zr_here, zq_upd, c_19, hr3])
set_option maxHeartbeats 4000000 in
set_option maxRecDepth 100000 in
theorem kX10_quoted (l : Launch) (g : za_G) (E : za_E) (h : Nat) (ad : Nat → Nat) (M : zm_M) (x : Int32) (hT : zm_T M) (hs : ¬ M.1 23 < 0) (hk : zm_K M 4) (D : Nat) (hd9 : 0 < M.1 36 → M.1 36 - 1 = nI D) (hD9 : D < 100) : za_Cv l g E yX10_quoted cX10_quoted 2 5 0 0 [.ref h, .int x] (zm_ws g h ad M) (fun u : zm_M => u = zm_quoted M x) (fun u => zm_ws g h ad u) := by
  refine za_begin (by decide) (Nat.le_of_ble_eq_true rfl) RX10 rfl ?_
  intro p e s m args below meth co A ls Q H locs C hQ hr hlocks hnm hS hP hD hl
  obtain ⟨hx, hb, hml, hown, hts, hK, hA, hE⟩ := id C
  have hl : lv_has ls 2 [(0, .ref h), (1, .int x)] := hl
  refine lv_aload_n hx hb dX10_quoted_0 rfl (lv_at hl 0 rfl) ?_
  refine va_get (ci := 9) (v := .int (M.1 33)) hx hb hts iX10 hown hK hP 0 rfl rfl 33 (by decide) (hts _ w_844) (fun _ h9 => h9) rfl dX10_quoted_1 ?_
  refine za_if_le (tgt := 95) hx hb dX10_quoted_4 (by decide) (fun c_4 => ?_) (fun c_4 => ?_)
  · refine lv_aload_n hx hb dX10_quoted_95 rfl (lv_at hl 0 rfl) ?_
    refine va_get (ci := 9) (v := .int (M.1 36)) hx hb hts iX10 hown hK hP 0 rfl rfl 36 (by decide) (hts _ w_847) (fun _ h9 => h9) rfl dX10_quoted_96 ?_
    refine za_if_le (tgt := 110) hx hb dX10_quoted_99 (by decide) (fun c_99 => ?_) (fun c_99 => ?_)
    · refine lv_aload_n hx hb dX10_quoted_110 rfl (lv_at hl 0 rfl) ?_
      refine va_get (ci := 9) (v := .int (M.1 39)) hx hb hts iX10 hown hK hP 0 rfl rfl 39 (by decide) (hts _ w_850) (fun _ h9 => h9) rfl dX10_quoted_111 ?_
      refine lv_if_eq (tgt := 125) hx hb dX10_quoted_114 (by decide) (fun c_114 => ?_) (fun c_114 => ?_)
      · refine lv_iload_n hx hb dX10_quoted_125 rfl (lv_at hl 1 rfl) ?_
        refine lv_aload_n hx hb dX10_quoted_126 rfl (lv_at hl 0 rfl) ?_
        refine va_get (ci := 9) (v := .int (M.1 32)) hx hb hts iX10 hown hK hP 0 rfl rfl 32 (by decide) (hts _ w_843) (fun _ h9 => h9) rfl dX10_quoted_127 ?_
        refine lv_icmp_ne (tgt := 140) hx hb dX10_quoted_130 (by decide) (fun c_130 => ?_) (fun c_130 => ?_)
        · refine lv_iload_n hx hb dX10_quoted_140 rfl (lv_at hl 1 rfl) ?_
          refine lv_iconst (v := (-1)) hx hb dX10_quoted_141 (by decide) ?_
          refine lv_icmp_eq (tgt := 187) hx hb dX10_quoted_142 (by decide) (fun c_142 => ?_) (fun c_142 => ?_)
          · refine lv_aload_n hx hb dX10_quoted_187 rfl (lv_at hl 0 rfl) ?_
            refine za_cv (wc := zm_ws g h ad M) (wr := []) C hP hD hS [0, 1, 2, 3, 4, 5, 6, 7, 8, 9, 10, 11, 12, 13, 14, 15, 16, 17] [] rfl rfl (by decide) (by decide) (za_runV C hP hD hS [0, 1, 2, 3, 4, 5, 6, 7, 8, 9, 10, 11, 12, 13, 14, 15, 16, 17] rfl (by decide) rfl (kX10_error l g E h ad M  ) w_1010 mX10_error 0 rfl rfl rfl rfl hl.1 rfl (Nat.le_of_ble_eq_true rfl) dX10_quoted_188 ⟨by decide, by decide⟩ ⟨by decide, by decide⟩) (fun M1 H locs hM1 hP hD hS => ?_)
            have hP : va_P g.1 vwCl (zm_ws g h ad M1) H := hP
            have hD : va_D A (zm_ws g h ad M1) := hD
            refine lv_goto (tgt := 229) hx hb dX10_quoted_191 (by decide) ?_
            subst hM1
            exact zm_rv hQ hx hb hr hlocks hK hP hD hS (by simp [zm_quoted, zq_upd, c_4, c_99, eq_true c_114, c_130, eq_true c_142]) dX10_quoted_229
          · refine lv_iload_n hx hb dX10_quoted_145 rfl (lv_at hl 1 rfl) ?_
            refine lv_if_eq (tgt := 187) hx hb dX10_quoted_146 (by decide) (fun c_146 => ?_) (fun c_146 => ?_)
            · refine lv_aload_n hx hb dX10_quoted_187 rfl (lv_at hl 0 rfl) ?_
              refine za_cv (wc := zm_ws g h ad M) (wr := []) C hP hD hS [0, 1, 2, 3, 4, 5, 6, 7, 8, 9, 10, 11, 12, 13, 14, 15, 16, 17] [] rfl rfl (by decide) (by decide) (za_runV C hP hD hS [0, 1, 2, 3, 4, 5, 6, 7, 8, 9, 10, 11, 12, 13, 14, 15, 16, 17] rfl (by decide) rfl (kX10_error l g E h ad M  ) w_1010 mX10_error 0 rfl rfl rfl rfl hl.1 rfl (Nat.le_of_ble_eq_true rfl) dX10_quoted_188 ⟨by decide, by decide⟩ ⟨by decide, by decide⟩) (fun M2 H locs hM2 hP hD hS => ?_)
              have hP : va_P g.1 vwCl (zm_ws g h ad M2) H := hP
              have hD : va_D A (zm_ws g h ad M2) := hD
              refine lv_goto (tgt := 229) hx hb dX10_quoted_191 (by decide) ?_
              subst hM2
              exact zm_rv hQ hx hb hr hlocks hK hP hD hS (by simp [zm_quoted, zq_upd, c_4, c_99, eq_true c_114, c_130, c_142, eq_true c_146]) dX10_quoted_229
            · refine lv_iload_n hx hb dX10_quoted_149 rfl (lv_at hl 1 rfl) ?_
              refine lv_bipush (v := 10) hx hb dX10_quoted_150 (by decide) ?_
              refine lv_icmp_eq (tgt := 171) hx hb dX10_quoted_152 (by decide) (fun c_152 => ?_) (fun c_152 => ?_)
              · refine lv_aload_n hx hb dX10_quoted_171 rfl (lv_at hl 0 rfl) ?_
                refine va_get (ci := 9) (v := .int (M.1 32)) hx hb hts iX10 hown hK hP 0 rfl rfl 32 (by decide) (hts _ w_843) (fun _ h9 => h9) rfl dX10_quoted_172 ?_
                refine lv_bipush (v := 96) hx hb dX10_quoted_175 (by decide) ?_
                refine lv_icmp_eq (tgt := 194) hx hb dX10_quoted_177 (by decide) (fun c_177 => ?_) (fun c_177 => ?_)
                · refine lv_iload_n hx hb dX10_quoted_194 rfl (lv_at hl 1 rfl) ?_
                  refine lv_bipush (v := 92) hx hb dX10_quoted_195 (by decide) ?_
                  refine lv_icmp_ne (tgt := 224) hx hb dX10_quoted_197 (by decide) (fun c_197 => ?_) (fun c_197 => ?_)
                  · refine lv_aload_n hx hb dX10_quoted_224 rfl (lv_at hl 0 rfl) ?_
                    refine lv_iload_n hx hb dX10_quoted_225 rfl (lv_at hl 1 rfl) ?_
                    refine za_cv (wc := zm_ws g h ad M) (wr := []) C hP hD hS [0, 1, 2, 3, 4, 5, 6, 7, 8, 9, 10, 11, 12, 13, 14, 15, 16, 17] [] rfl rfl (by decide) (by decide) (za_runV C hP hD hS [0, 1, 2, 3, 4, 5, 6, 7, 8, 9, 10, 11, 12, 13, 14, 15, 16, 17] rfl (by decide) rfl (kX10_character l g E h ad M x (zm_K_le hk (by decide))) w_1086 mX10_character 0 rfl rfl rfl rfl hl.1 rfl (Nat.le_of_ble_eq_true rfl) dX10_quoted_226 ⟨by decide, by decide⟩ ⟨by decide, by decide⟩) (fun M3 H locs hM3 hP hD hS => ?_)
                    have hP : va_P g.1 vwCl (zm_ws g h ad M3) H := hP
                    have hD : va_D A (zm_ws g h ad M3) := hD
                    subst hM3
                    exact zm_rv hQ hx hb hr hlocks hK hP hD hS (by simp [zm_quoted, zq_upd, c_4, c_99, eq_true c_114, c_130, c_142, c_146, eq_true c_152, eq_true c_177, c_197]) dX10_quoted_229
                  · refine lv_aload_n hx hb dX10_quoted_200 rfl (lv_at hl 0 rfl) ?_
                    refine va_get (ci := 9) (v := .int (M.1 32)) hx hb hts iX10 hown hK hP 0 rfl rfl 32 (by decide) (hts _ w_843) (fun _ h9 => h9) rfl dX10_quoted_201 ?_
                    refine lv_bipush (v := 96) hx hb dX10_quoted_204 (by decide) ?_
                    refine lv_icmp_eq (tgt := 224) hx hb dX10_quoted_206 (by decide) (fun c_206 => ?_) (fun c_206 => ?_)
                    · refine lv_aload_n hx hb dX10_quoted_224 rfl (lv_at hl 0 rfl) ?_
                      refine lv_iload_n hx hb dX10_quoted_225 rfl (lv_at hl 1 rfl) ?_
                      refine za_cv (wc := zm_ws g h ad M) (wr := []) C hP hD hS [0, 1, 2, 3, 4, 5, 6, 7, 8, 9, 10, 11, 12, 13, 14, 15, 16, 17] [] rfl rfl (by decide) (by decide) (za_runV C hP hD hS [0, 1, 2, 3, 4, 5, 6, 7, 8, 9, 10, 11, 12, 13, 14, 15, 16, 17] rfl (by decide) rfl (kX10_character l g E h ad M x (zm_K_le hk (by decide))) w_1086 mX10_character 0 rfl rfl rfl rfl hl.1 rfl (Nat.le_of_ble_eq_true rfl) dX10_quoted_226 ⟨by decide, by decide⟩ ⟨by decide, by decide⟩) (fun M4 H locs hM4 hP hD hS => ?_)
                      have hP : va_P g.1 vwCl (zm_ws g h ad M4) H := hP
                      have hD : va_D A (zm_ws g h ad M4) := hD
                      subst hM4
                      exact zm_rv hQ hx hb hr hlocks hK hP hD hS (by simp [zm_quoted, zq_upd, c_4, c_99, eq_true c_114, c_130, c_142, c_146, eq_true c_152, eq_true c_177, eq_true c_197, eq_true c_206]) dX10_quoted_229
                    · exact absurd c_177 c_206
                · refine lv_aload_n hx hb dX10_quoted_180 rfl (lv_at hl 0 rfl) ?_
                  refine va_get (ci := 9) (v := .int (M.1 32)) hx hb hts iX10 hown hK hP 0 rfl rfl 32 (by decide) (hts _ w_843) (fun _ h9 => h9) rfl dX10_quoted_181 ?_
                  refine lv_if_eq (tgt := 194) hx hb dX10_quoted_184 (by decide) (fun c_184 => ?_) (fun c_184 => ?_)
                  · refine lv_iload_n hx hb dX10_quoted_194 rfl (lv_at hl 1 rfl) ?_
                    refine lv_bipush (v := 92) hx hb dX10_quoted_195 (by decide) ?_
                    refine lv_icmp_ne (tgt := 224) hx hb dX10_quoted_197 (by decide) (fun c_197 => ?_) (fun c_197 => ?_)
                    · refine lv_aload_n hx hb dX10_quoted_224 rfl (lv_at hl 0 rfl) ?_
                      refine lv_iload_n hx hb dX10_quoted_225 rfl (lv_at hl 1 rfl) ?_
                      refine za_cv (wc := zm_ws g h ad M) (wr := []) C hP hD hS [0, 1, 2, 3, 4, 5, 6, 7, 8, 9, 10, 11, 12, 13, 14, 15, 16, 17] [] rfl rfl (by decide) (by decide) (za_runV C hP hD hS [0, 1, 2, 3, 4, 5, 6, 7, 8, 9, 10, 11, 12, 13, 14, 15, 16, 17] rfl (by decide) rfl (kX10_character l g E h ad M x (zm_K_le hk (by decide))) w_1086 mX10_character 0 rfl rfl rfl rfl hl.1 rfl (Nat.le_of_ble_eq_true rfl) dX10_quoted_226 ⟨by decide, by decide⟩ ⟨by decide, by decide⟩) (fun M5 H locs hM5 hP hD hS => ?_)
                      have hP : va_P g.1 vwCl (zm_ws g h ad M5) H := hP
                      have hD : va_D A (zm_ws g h ad M5) := hD
                      subst hM5
                      exact zm_rv hQ hx hb hr hlocks hK hP hD hS (by simp [zm_quoted, zq_upd, c_4, c_99, eq_true c_114, c_130, c_142, c_146, eq_true c_152, c_177, eq_true c_184, c_197]) dX10_quoted_229
                    · refine lv_aload_n hx hb dX10_quoted_200 rfl (lv_at hl 0 rfl) ?_
                      refine va_get (ci := 9) (v := .int (M.1 32)) hx hb hts iX10 hown hK hP 0 rfl rfl 32 (by decide) (hts _ w_843) (fun _ h9 => h9) rfl dX10_quoted_201 ?_
                      refine lv_bipush (v := 96) hx hb dX10_quoted_204 (by decide) ?_
                      refine lv_icmp_eq (tgt := 224) hx hb dX10_quoted_206 (by decide) (fun c_206 => ?_) (fun c_206 => ?_)
                      · exact absurd c_206 c_177
                      · refine lv_aload_n hx hb dX10_quoted_209 rfl (lv_at hl 0 rfl) ?_
                        refine va_get (ci := 9) (v := .int (M.1 32)) hx hb hts iX10 hown hK hP 0 rfl rfl 32 (by decide) (hts _ w_843) (fun _ h9 => h9) rfl dX10_quoted_210 ?_
                        refine lv_if_eq (tgt := 224) hx hb dX10_quoted_213 (by decide) (fun c_213 => ?_) (fun c_213 => ?_)
                        · refine lv_aload_n hx hb dX10_quoted_224 rfl (lv_at hl 0 rfl) ?_
                          refine lv_iload_n hx hb dX10_quoted_225 rfl (lv_at hl 1 rfl) ?_
                          refine za_cv (wc := zm_ws g h ad M) (wr := []) C hP hD hS [0, 1, 2, 3, 4, 5, 6, 7, 8, 9, 10, 11, 12, 13, 14, 15, 16, 17] [] rfl rfl (by decide) (by decide) (za_runV C hP hD hS [0, 1, 2, 3, 4, 5, 6, 7, 8, 9, 10, 11, 12, 13, 14, 15, 16, 17] rfl (by decide) rfl (kX10_character l g E h ad M x (zm_K_le hk (by decide))) w_1086 mX10_character 0 rfl rfl rfl rfl hl.1 rfl (Nat.le_of_ble_eq_true rfl) dX10_quoted_226 ⟨by decide, by decide⟩ ⟨by decide, by decide⟩) (fun M6 H locs hM6 hP hD hS => ?_)
                          have hP : va_P g.1 vwCl (zm_ws g h ad M6) H := hP
                          have hD : va_D A (zm_ws g h ad M6) := hD
                          subst hM6
                          exact zm_rv hQ hx hb hr hlocks hK hP hD hS (by simp [zm_quoted, zq_upd, c_4, c_99, eq_true c_114, c_130, c_142, c_146, eq_true c_152, c_177, eq_true c_184, eq_true c_197, c_206, eq_true c_213]) dX10_quoted_229
                        · exact absurd c_184 c_213
                  · refine lv_aload_n hx hb dX10_quoted_187 rfl (lv_at hl 0 rfl) ?_
                    refine za_cv (wc := zm_ws g h ad M) (wr := []) C hP hD hS [0, 1, 2, 3, 4, 5, 6, 7, 8, 9, 10, 11, 12, 13, 14, 15, 16, 17] [] rfl rfl (by decide) (by decide) (za_runV C hP hD hS [0, 1, 2, 3, 4, 5, 6, 7, 8, 9, 10, 11, 12, 13, 14, 15, 16, 17] rfl (by decide) rfl (kX10_error l g E h ad M  ) w_1010 mX10_error 0 rfl rfl rfl rfl hl.1 rfl (Nat.le_of_ble_eq_true rfl) dX10_quoted_188 ⟨by decide, by decide⟩ ⟨by decide, by decide⟩) (fun M7 H locs hM7 hP hD hS => ?_)
                    have hP : va_P g.1 vwCl (zm_ws g h ad M7) H := hP
                    have hD : va_D A (zm_ws g h ad M7) := hD
                    refine lv_goto (tgt := 229) hx hb dX10_quoted_191 (by decide) ?_
                    subst hM7
                    exact zm_rv hQ hx hb hr hlocks hK hP hD hS (by simp [zm_quoted, zq_upd, c_4, c_99, eq_true c_114, c_130, c_142, c_146, eq_true c_152, c_177, c_184]) dX10_quoted_229
              · refine lv_aload_n hx hb dX10_quoted_155 rfl (lv_at hl 0 rfl) ?_
                refine va_get (ci := 9) (v := .int (M.1 32)) hx hb hts iX10 hown hK hP 0 rfl rfl 32 (by decide) (hts _ w_843) (fun _ h9 => h9) rfl dX10_quoted_156 ?_
                refine lv_bipush (v := 39) hx hb dX10_quoted_159 (by decide) ?_
                refine lv_icmp_ne (tgt := 194) hx hb dX10_quoted_161 (by decide) (fun c_161 => ?_) (fun c_161 => ?_)
                · refine lv_iload_n hx hb dX10_quoted_194 rfl (lv_at hl 1 rfl) ?_
                  refine lv_bipush (v := 92) hx hb dX10_quoted_195 (by decide) ?_
                  refine lv_icmp_ne (tgt := 224) hx hb dX10_quoted_197 (by decide) (fun c_197 => ?_) (fun c_197 => ?_)
                  · refine lv_aload_n hx hb dX10_quoted_224 rfl (lv_at hl 0 rfl) ?_
                    refine lv_iload_n hx hb dX10_quoted_225 rfl (lv_at hl 1 rfl) ?_
                    refine za_cv (wc := zm_ws g h ad M) (wr := []) C hP hD hS [0, 1, 2, 3, 4, 5, 6, 7, 8, 9, 10, 11, 12, 13, 14, 15, 16, 17] [] rfl rfl (by decide) (by decide) (za_runV C hP hD hS [0, 1, 2, 3, 4, 5, 6, 7, 8, 9, 10, 11, 12, 13, 14, 15, 16, 17] rfl (by decide) rfl (kX10_character l g E h ad M x (zm_K_le hk (by decide))) w_1086 mX10_character 0 rfl rfl rfl rfl hl.1 rfl (Nat.le_of_ble_eq_true rfl) dX10_quoted_226 ⟨by decide, by decide⟩ ⟨by decide, by decide⟩) (fun M8 H locs hM8 hP hD hS => ?_)
                    have hP : va_P g.1 vwCl (zm_ws g h ad M8) H := hP
                    have hD : va_D A (zm_ws g h ad M8) := hD
                    subst hM8
                    exact zm_rv hQ hx hb hr hlocks hK hP hD hS (by simp [zm_quoted, zq_upd, c_4, c_99, eq_true c_114, c_130, c_142, c_146, c_152, c_161, c_197]) dX10_quoted_229
                  · refine lv_aload_n hx hb dX10_quoted_200 rfl (lv_at hl 0 rfl) ?_
                    refine va_get (ci := 9) (v := .int (M.1 32)) hx hb hts iX10 hown hK hP 0 rfl rfl 32 (by decide) (hts _ w_843) (fun _ h9 => h9) rfl dX10_quoted_201 ?_
                    refine lv_bipush (v := 96) hx hb dX10_quoted_204 (by decide) ?_
                    refine lv_icmp_eq (tgt := 224) hx hb dX10_quoted_206 (by decide) (fun c_206 => ?_) (fun c_206 => ?_)
                    · refine lv_aload_n hx hb dX10_quoted_224 rfl (lv_at hl 0 rfl) ?_
                      refine lv_iload_n hx hb dX10_quoted_225 rfl (lv_at hl 1 rfl) ?_
                      refine za_cv (wc := zm_ws g h ad M) (wr := []) C hP hD hS [0, 1, 2, 3, 4, 5, 6, 7, 8, 9, 10, 11, 12, 13, 14, 15, 16, 17] [] rfl rfl (by decide) (by decide) (za_runV C hP hD hS [0, 1, 2, 3, 4, 5, 6, 7, 8, 9, 10, 11, 12, 13, 14, 15, 16, 17] rfl (by decide) rfl (kX10_character l g E h ad M x (zm_K_le hk (by decide))) w_1086 mX10_character 0 rfl rfl rfl rfl hl.1 rfl (Nat.le_of_ble_eq_true rfl) dX10_quoted_226 ⟨by decide, by decide⟩ ⟨by decide, by decide⟩) (fun M9 H locs hM9 hP hD hS => ?_)
                      have hP : va_P g.1 vwCl (zm_ws g h ad M9) H := hP
                      have hD : va_D A (zm_ws g h ad M9) := hD
                      subst hM9
                      exact zm_rv hQ hx hb hr hlocks hK hP hD hS (by simp [zm_quoted, zq_upd, c_4, c_99, eq_true c_114, c_130, c_142, c_146, c_152, c_161, eq_true c_197, eq_true c_206]) dX10_quoted_229
                    · refine lv_aload_n hx hb dX10_quoted_209 rfl (lv_at hl 0 rfl) ?_
                      refine va_get (ci := 9) (v := .int (M.1 32)) hx hb hts iX10 hown hK hP 0 rfl rfl 32 (by decide) (hts _ w_843) (fun _ h9 => h9) rfl dX10_quoted_210 ?_
                      refine lv_if_eq (tgt := 224) hx hb dX10_quoted_213 (by decide) (fun c_213 => ?_) (fun c_213 => ?_)
                      · refine lv_aload_n hx hb dX10_quoted_224 rfl (lv_at hl 0 rfl) ?_
                        refine lv_iload_n hx hb dX10_quoted_225 rfl (lv_at hl 1 rfl) ?_
                        refine za_cv (wc := zm_ws g h ad M) (wr := []) C hP hD hS [0, 1, 2, 3, 4, 5, 6, 7, 8, 9, 10, 11, 12, 13, 14, 15, 16, 17] [] rfl rfl (by decide) (by decide) (za_runV C hP hD hS [0, 1, 2, 3, 4, 5, 6, 7, 8, 9, 10, 11, 12, 13, 14, 15, 16, 17] rfl (by decide) rfl (kX10_character l g E h ad M x (zm_K_le hk (by decide))) w_1086 mX10_character 0 rfl rfl rfl rfl hl.1 rfl (Nat.le_of_ble_eq_true rfl) dX10_quoted_226 ⟨by decide, by decide⟩ ⟨by decide, by decide⟩) (fun M10 H locs hM10 hP hD hS => ?_)
                        have hP : va_P g.1 vwCl (zm_ws g h ad M10) H := hP
                        have hD : va_D A (zm_ws g h ad M10) := hD
                        subst hM10
                        exact zm_rv hQ hx hb hr hlocks hK hP hD hS (by simp [zm_quoted, zq_upd, c_4, c_99, eq_true c_114, c_130, c_142, c_146, c_152, c_161, eq_true c_197, c_206, eq_true c_213]) dX10_quoted_229
                      · refine lv_aload_n hx hb dX10_quoted_216 rfl (lv_at hl 0 rfl) ?_
                        refine lv_iconst (v := 1) hx hb dX10_quoted_217 (by decide) ?_
                        refine va_put (ci := 9) (fs := zm_fs ad M.1) (v := .int 1) hx hb hts iX10 tyX10 tyX10_ok nmX10 hown hK hP hD hS 0 rfl rfl 39 (by decide) (hts _ w_850) (fun _ h9 => h9) rfl (tyX10_ok 39 (by decide)) rfl rfl (Nat.le_of_ble_eq_true rfl) dX10_quoted_218 (fun H locs hP hD hS => ?_)
                        have hP := zm_pf39 (X := M) hP
                        have hD := zm_df39 (X := M) hD
                        refine lv_goto (tgt := 229) hx hb dX10_quoted_221 (by decide) ?_
                        exact zm_rv hQ hx hb hr hlocks hK hP hD hS (by simp [zm_quoted, zq_upd, c_4, c_99, eq_true c_114, c_130, c_142, c_146, c_152, c_161, eq_true c_197, c_206, c_213]) dX10_quoted_229
                · refine lv_aload_n hx hb dX10_quoted_164 rfl (lv_at hl 0 rfl) ?_
                  refine va_get (ci := 9) (v := .int (M.1 41)) hx hb hts iX10 hown hK hP 0 rfl rfl 41 (by decide) (hts _ w_852) (fun _ h9 => h9) rfl dX10_quoted_165 ?_
                  refine lv_if_eq (tgt := 194) hx hb dX10_quoted_168 (by decide) (fun c_168 => ?_) (fun c_168 => ?_)
                  · refine lv_iload_n hx hb dX10_quoted_194 rfl (lv_at hl 1 rfl) ?_
                    refine lv_bipush (v := 92) hx hb dX10_quoted_195 (by decide) ?_
                    refine lv_icmp_ne (tgt := 224) hx hb dX10_quoted_197 (by decide) (fun c_197 => ?_) (fun c_197 => ?_)
                    · refine lv_aload_n hx hb dX10_quoted_224 rfl (lv_at hl 0 rfl) ?_
                      refine lv_iload_n hx hb dX10_quoted_225 rfl (lv_at hl 1 rfl) ?_
                      refine za_cv (wc := zm_ws g h ad M) (wr := []) C hP hD hS [0, 1, 2, 3, 4, 5, 6, 7, 8, 9, 10, 11, 12, 13, 14, 15, 16, 17] [] rfl rfl (by decide) (by decide) (za_runV C hP hD hS [0, 1, 2, 3, 4, 5, 6, 7, 8, 9, 10, 11, 12, 13, 14, 15, 16, 17] rfl (by decide) rfl (kX10_character l g E h ad M x (zm_K_le hk (by decide))) w_1086 mX10_character 0 rfl rfl rfl rfl hl.1 rfl (Nat.le_of_ble_eq_true rfl) dX10_quoted_226 ⟨by decide, by decide⟩ ⟨by decide, by decide⟩) (fun M11 H locs hM11 hP hD hS => ?_)
                      have hP : va_P g.1 vwCl (zm_ws g h ad M11) H := hP
                      have hD : va_D A (zm_ws g h ad M11) := hD
                      subst hM11
                      exact zm_rv hQ hx hb hr hlocks hK hP hD hS (by simp [zm_quoted, zq_upd, c_4, c_99, eq_true c_114, c_130, c_142, c_146, c_152, eq_true c_161, eq_true c_168, c_197]) dX10_quoted_229
                    · refine lv_aload_n hx hb dX10_quoted_200 rfl (lv_at hl 0 rfl) ?_
                      refine va_get (ci := 9) (v := .int (M.1 32)) hx hb hts iX10 hown hK hP 0 rfl rfl 32 (by decide) (hts _ w_843) (fun _ h9 => h9) rfl dX10_quoted_201 ?_
                      refine lv_bipush (v := 96) hx hb dX10_quoted_204 (by decide) ?_
                      refine lv_icmp_eq (tgt := 224) hx hb dX10_quoted_206 (by decide) (fun c_206 => ?_) (fun c_206 => ?_)
                      · refine lv_aload_n hx hb dX10_quoted_224 rfl (lv_at hl 0 rfl) ?_
                        refine lv_iload_n hx hb dX10_quoted_225 rfl (lv_at hl 1 rfl) ?_
                        refine za_cv (wc := zm_ws g h ad M) (wr := []) C hP hD hS [0, 1, 2, 3, 4, 5, 6, 7, 8, 9, 10, 11, 12, 13, 14, 15, 16, 17] [] rfl rfl (by decide) (by decide) (za_runV C hP hD hS [0, 1, 2, 3, 4, 5, 6, 7, 8, 9, 10, 11, 12, 13, 14, 15, 16, 17] rfl (by decide) rfl (kX10_character l g E h ad M x (zm_K_le hk (by decide))) w_1086 mX10_character 0 rfl rfl rfl rfl hl.1 rfl (Nat.le_of_ble_eq_true rfl) dX10_quoted_226 ⟨by decide, by decide⟩ ⟨by decide, by decide⟩) (fun M12 H locs hM12 hP hD hS => ?_)
                        have hP : va_P g.1 vwCl (zm_ws g h ad M12) H := hP
                        have hD : va_D A (zm_ws g h ad M12) := hD
                        subst hM12
                        exact zm_rv hQ hx hb hr hlocks hK hP hD hS (by simp [zm_quoted, zq_upd, c_4, c_99, eq_true c_114, c_130, c_142, c_146, c_152, eq_true c_161, eq_true c_168, eq_true c_197, eq_true c_206]) dX10_quoted_229
                      · refine lv_aload_n hx hb dX10_quoted_209 rfl (lv_at hl 0 rfl) ?_
                        refine va_get (ci := 9) (v := .int (M.1 32)) hx hb hts iX10 hown hK hP 0 rfl rfl 32 (by decide) (hts _ w_843) (fun _ h9 => h9) rfl dX10_quoted_210 ?_
                        refine lv_if_eq (tgt := 224) hx hb dX10_quoted_213 (by decide) (fun c_213 => ?_) (fun c_213 => ?_)
                        · refine lv_aload_n hx hb dX10_quoted_224 rfl (lv_at hl 0 rfl) ?_
                          refine lv_iload_n hx hb dX10_quoted_225 rfl (lv_at hl 1 rfl) ?_
                          refine za_cv (wc := zm_ws g h ad M) (wr := []) C hP hD hS [0, 1, 2, 3, 4, 5, 6, 7, 8, 9, 10, 11, 12, 13, 14, 15, 16, 17] [] rfl rfl (by decide) (by decide) (za_runV C hP hD hS [0, 1, 2, 3, 4, 5, 6, 7, 8, 9, 10, 11, 12, 13, 14, 15, 16, 17] rfl (by decide) rfl (kX10_character l g E h ad M x (zm_K_le hk (by decide))) w_1086 mX10_character 0 rfl rfl rfl rfl hl.1 rfl (Nat.le_of_ble_eq_true rfl) dX10_quoted_226 ⟨by decide, by decide⟩ ⟨by decide, by decide⟩) (fun M13 H locs hM13 hP hD hS => ?_)
                          have hP : va_P g.1 vwCl (zm_ws g h ad M13) H := hP
                          have hD : va_D A (zm_ws g h ad M13) := hD
                          subst hM13
                          exact zm_rv hQ hx hb hr hlocks hK hP hD hS (by simp [zm_quoted, zq_upd, c_4, c_99, eq_true c_114, c_130, c_142, c_146, c_152, eq_true c_161, eq_true c_168, eq_true c_197, c_206, eq_true c_213]) dX10_quoted_229
                        · refine lv_aload_n hx hb dX10_quoted_216 rfl (lv_at hl 0 rfl) ?_
                          refine lv_iconst (v := 1) hx hb dX10_quoted_217 (by decide) ?_
                          refine va_put (ci := 9) (fs := zm_fs ad M.1) (v := .int 1) hx hb hts iX10 tyX10 tyX10_ok nmX10 hown hK hP hD hS 0 rfl rfl 39 (by decide) (hts _ w_850) (fun _ h9 => h9) rfl (tyX10_ok 39 (by decide)) rfl rfl (Nat.le_of_ble_eq_true rfl) dX10_quoted_218 (fun H locs hP hD hS => ?_)
                          have hP := zm_pf39 (X := M) hP
                          have hD := zm_df39 (X := M) hD
                          refine lv_goto (tgt := 229) hx hb dX10_quoted_221 (by decide) ?_
                          exact zm_rv hQ hx hb hr hlocks hK hP hD hS (by simp [zm_quoted, zq_upd, c_4, c_99, eq_true c_114, c_130, c_142, c_146, c_152, eq_true c_161, eq_true c_168, eq_true c_197, c_206, c_213]) dX10_quoted_229
                  · refine lv_aload_n hx hb dX10_quoted_171 rfl (lv_at hl 0 rfl) ?_
                    refine va_get (ci := 9) (v := .int (M.1 32)) hx hb hts iX10 hown hK hP 0 rfl rfl 32 (by decide) (hts _ w_843) (fun _ h9 => h9) rfl dX10_quoted_172 ?_
                    refine lv_bipush (v := 96) hx hb dX10_quoted_175 (by decide) ?_
                    refine lv_icmp_eq (tgt := 194) hx hb dX10_quoted_177 (by decide) (fun c_177 => ?_) (fun c_177 => ?_)
                    · refine lv_iload_n hx hb dX10_quoted_194 rfl (lv_at hl 1 rfl) ?_
                      refine lv_bipush (v := 92) hx hb dX10_quoted_195 (by decide) ?_
                      refine lv_icmp_ne (tgt := 224) hx hb dX10_quoted_197 (by decide) (fun c_197 => ?_) (fun c_197 => ?_)
                      · refine lv_aload_n hx hb dX10_quoted_224 rfl (lv_at hl 0 rfl) ?_
                        refine lv_iload_n hx hb dX10_quoted_225 rfl (lv_at hl 1 rfl) ?_
                        refine za_cv (wc := zm_ws g h ad M) (wr := []) C hP hD hS [0, 1, 2, 3, 4, 5, 6, 7, 8, 9, 10, 11, 12, 13, 14, 15, 16, 17] [] rfl rfl (by decide) (by decide) (za_runV C hP hD hS [0, 1, 2, 3, 4, 5, 6, 7, 8, 9, 10, 11, 12, 13, 14, 15, 16, 17] rfl (by decide) rfl (kX10_character l g E h ad M x (zm_K_le hk (by decide))) w_1086 mX10_character 0 rfl rfl rfl rfl hl.1 rfl (Nat.le_of_ble_eq_true rfl) dX10_quoted_226 ⟨by decide, by decide⟩ ⟨by decide, by decide⟩) (fun M14 H locs hM14 hP hD hS => ?_)
                        have hP : va_P g.1 vwCl (zm_ws g h ad M14) H := hP
                        have hD : va_D A (zm_ws g h ad M14) := hD
                        subst hM14
                        exact zm_rv hQ hx hb hr hlocks hK hP hD hS (by simp [zm_quoted, zq_upd, c_4, c_99, eq_true c_114, c_130, c_142, c_146, c_152, eq_true c_161, c_168, eq_true c_177, c_197]) dX10_quoted_229
                      · refine lv_aload_n hx hb dX10_quoted_200 rfl (lv_at hl 0 rfl) ?_
                        refine va_get (ci := 9) (v := .int (M.1 32)) hx hb hts iX10 hown hK hP 0 rfl rfl 32 (by decide) (hts _ w_843) (fun _ h9 => h9) rfl dX10_quoted_201 ?_
                        refine lv_bipush (v := 96) hx hb dX10_quoted_204 (by decide) ?_
                        refine lv_icmp_eq (tgt := 224) hx hb dX10_quoted_206 (by decide) (fun c_206 => ?_) (fun c_206 => ?_)
                        · refine lv_aload_n hx hb dX10_quoted_224 rfl (lv_at hl 0 rfl) ?_
                          refine lv_iload_n hx hb dX10_quoted_225 rfl (lv_at hl 1 rfl) ?_
                          refine za_cv (wc := zm_ws g h ad M) (wr := []) C hP hD hS [0, 1, 2, 3, 4, 5, 6, 7, 8, 9, 10, 11, 12, 13, 14, 15, 16, 17] [] rfl rfl (by decide) (by decide) (za_runV C hP hD hS [0, 1, 2, 3, 4, 5, 6, 7, 8, 9, 10, 11, 12, 13, 14, 15, 16, 17] rfl (by decide) rfl (kX10_character l g E h ad M x (zm_K_le hk (by decide))) w_1086 mX10_character 0 rfl rfl rfl rfl hl.1 rfl (Nat.le_of_ble_eq_true rfl) dX10_quoted_226 ⟨by decide, by decide⟩ ⟨by decide, by decide⟩) (fun M15 H locs hM15 hP hD hS => ?_)
                          have hP : va_P g.1 vwCl (zm_ws g h ad M15) H := hP
                          have hD : va_D A (zm_ws g h ad M15) := hD
                          subst hM15
                          exact zm_rv hQ hx hb hr hlocks hK hP hD hS (by simp [zm_quoted, zq_upd, c_4, c_99, eq_true c_114, c_130, c_142, c_146, c_152, eq_true c_161, c_168, eq_true c_177, eq_true c_197, eq_true c_206]) dX10_quoted_229
                        · exact absurd c_177 c_206
                    · refine lv_aload_n hx hb dX10_quoted_180 rfl (lv_at hl 0 rfl) ?_
                      refine va_get (ci := 9) (v := .int (M.1 32)) hx hb hts iX10 hown hK hP 0 rfl rfl 32 (by decide) (hts _ w_843) (fun _ h9 => h9) rfl dX10_quoted_181 ?_
                      refine lv_if_eq (tgt := 194) hx hb dX10_quoted_184 (by decide) (fun c_184 => ?_) (fun c_184 => ?_)
                      · refine lv_iload_n hx hb dX10_quoted_194 rfl (lv_at hl 1 rfl) ?_
                        refine lv_bipush (v := 92) hx hb dX10_quoted_195 (by decide) ?_
                        refine lv_icmp_ne (tgt := 224) hx hb dX10_quoted_197 (by decide) (fun c_197 => ?_) (fun c_197 => ?_)
                        · refine lv_aload_n hx hb dX10_quoted_224 rfl (lv_at hl 0 rfl) ?_
                          refine lv_iload_n hx hb dX10_quoted_225 rfl (lv_at hl 1 rfl) ?_
                          refine za_cv (wc := zm_ws g h ad M) (wr := []) C hP hD hS [0, 1, 2, 3, 4, 5, 6, 7, 8, 9, 10, 11, 12, 13, 14, 15, 16, 17] [] rfl rfl (by decide) (by decide) (za_runV C hP hD hS [0, 1, 2, 3, 4, 5, 6, 7, 8, 9, 10, 11, 12, 13, 14, 15, 16, 17] rfl (by decide) rfl (kX10_character l g E h ad M x (zm_K_le hk (by decide))) w_1086 mX10_character 0 rfl rfl rfl rfl hl.1 rfl (Nat.le_of_ble_eq_true rfl) dX10_quoted_226 ⟨by decide, by decide⟩ ⟨by decide, by decide⟩) (fun M16 H locs hM16 hP hD hS => ?_)
                          have hP : va_P g.1 vwCl (zm_ws g h ad M16) H := hP
                          have hD : va_D A (zm_ws g h ad M16) := hD
                          subst hM16
                          exact zm_rv hQ hx hb hr hlocks hK hP hD hS (by simp [zm_quoted, zq_upd, c_4, c_99, eq_true c_114, c_130, c_142, c_146, c_152, eq_true c_161, c_168, c_177, eq_true c_184, c_197]) dX10_quoted_229
                        · refine lv_aload_n hx hb dX10_quoted_200 rfl (lv_at hl 0 rfl) ?_
                          refine va_get (ci := 9) (v := .int (M.1 32)) hx hb hts iX10 hown hK hP 0 rfl rfl 32 (by decide) (hts _ w_843) (fun _ h9 => h9) rfl dX10_quoted_201 ?_
                          refine lv_bipush (v := 96) hx hb dX10_quoted_204 (by decide) ?_
                          refine lv_icmp_eq (tgt := 224) hx hb dX10_quoted_206 (by decide) (fun c_206 => ?_) (fun c_206 => ?_)
                          · exact absurd c_206 c_177
                          · refine lv_aload_n hx hb dX10_quoted_209 rfl (lv_at hl 0 rfl) ?_
                            refine va_get (ci := 9) (v := .int (M.1 32)) hx hb hts iX10 hown hK hP 0 rfl rfl 32 (by decide) (hts _ w_843) (fun _ h9 => h9) rfl dX10_quoted_210 ?_
                            refine lv_if_eq (tgt := 224) hx hb dX10_quoted_213 (by decide) (fun c_213 => ?_) (fun c_213 => ?_)
                            · refine lv_aload_n hx hb dX10_quoted_224 rfl (lv_at hl 0 rfl) ?_
                              refine lv_iload_n hx hb dX10_quoted_225 rfl (lv_at hl 1 rfl) ?_
                              refine za_cv (wc := zm_ws g h ad M) (wr := []) C hP hD hS [0, 1, 2, 3, 4, 5, 6, 7, 8, 9, 10, 11, 12, 13, 14, 15, 16, 17] [] rfl rfl (by decide) (by decide) (za_runV C hP hD hS [0, 1, 2, 3, 4, 5, 6, 7, 8, 9, 10, 11, 12, 13, 14, 15, 16, 17] rfl (by decide) rfl (kX10_character l g E h ad M x (zm_K_le hk (by decide))) w_1086 mX10_character 0 rfl rfl rfl rfl hl.1 rfl (Nat.le_of_ble_eq_true rfl) dX10_quoted_226 ⟨by decide, by decide⟩ ⟨by decide, by decide⟩) (fun M17 H locs hM17 hP hD hS => ?_)
                              have hP : va_P g.1 vwCl (zm_ws g h ad M17) H := hP
                              have hD : va_D A (zm_ws g h ad M17) := hD
                              subst hM17
                              exact zm_rv hQ hx hb hr hlocks hK hP hD hS (by simp [zm_quoted, zq_upd, c_4, c_99, eq_true c_114, c_130, c_142, c_146, c_152, eq_true c_161, c_168, c_177, eq_true c_184, eq_true c_197, c_206, eq_true c_213]) dX10_quoted_229
                            · exact absurd c_184 c_213
                      · refine lv_aload_n hx hb dX10_quoted_187 rfl (lv_at hl 0 rfl) ?_
                        refine za_cv (wc := zm_ws g h ad M) (wr := []) C hP hD hS [0, 1, 2, 3, 4, 5, 6, 7, 8, 9, 10, 11, 12, 13, 14, 15, 16, 17] [] rfl rfl (by decide) (by decide) (za_runV C hP hD hS [0, 1, 2, 3, 4, 5, 6, 7, 8, 9, 10, 11, 12, 13, 14, 15, 16, 17] rfl (by decide) rfl (kX10_error l g E h ad M  ) w_1010 mX10_error 0 rfl rfl rfl rfl hl.1 rfl (Nat.le_of_ble_eq_true rfl) dX10_quoted_188 ⟨by decide, by decide⟩ ⟨by decide, by decide⟩) (fun M18 H locs hM18 hP hD hS => ?_)
                        have hP : va_P g.1 vwCl (zm_ws g h ad M18) H := hP
                        have hD : va_D A (zm_ws g h ad M18) := hD
                        refine lv_goto (tgt := 229) hx hb dX10_quoted_191 (by decide) ?_
                        subst hM18
                        exact zm_rv hQ hx hb hr hlocks hK hP hD hS (by simp [zm_quoted, zq_upd, c_4, c_99, eq_true c_114, c_130, c_142, c_146, c_152, eq_true c_161, c_168, c_177, c_184]) dX10_quoted_229
        · refine lv_aload_n hx hb dX10_quoted_133 rfl (lv_at hl 0 rfl) ?_
          refine za_cv (wc := zm_ws g h ad M) (wr := []) C hP hD hS [0, 1, 2, 3, 4, 5, 6, 7, 8, 9, 10, 11, 12, 13, 14, 15, 16, 17] [] rfl rfl (by decide) (by decide) (za_runV C hP hD hS [0, 1, 2, 3, 4, 5, 6, 7, 8, 9, 10, 11, 12, 13, 14, 15, 16, 17] rfl (by decide) rfl (kX10_close l g E h ad M  hT hs) w_1082 mX10_close 0 rfl rfl rfl rfl hl.1 rfl (Nat.le_of_ble_eq_true rfl) dX10_quoted_134 ⟨by decide, by decide⟩ ⟨by decide, by decide⟩) (fun M19 H locs hM19 hP hD hS => ?_)
          have hP : va_P g.1 vwCl (zm_ws g h ad M19) H := hP
          have hD : va_D A (zm_ws g h ad M19) := hD
          refine lv_goto (tgt := 229) hx hb dX10_quoted_137 (by decide) ?_
          subst hM19
          exact zm_rv hQ hx hb hr hlocks hK hP hD hS (by simp [zm_quoted, zq_upd, c_4, c_99, eq_true c_114, eq_true c_130]) dX10_quoted_229
      · refine lv_aload_n hx hb dX10_quoted_117 rfl (lv_at hl 0 rfl) ?_
        refine lv_iload_n hx hb dX10_quoted_118 rfl (lv_at hl 1 rfl) ?_
        refine za_cv (wc := zm_ws g h ad M) (wr := []) C hP hD hS [0, 1, 2, 3, 4, 5, 6, 7, 8, 9, 10, 11, 12, 13, 14, 15, 16, 17] [] rfl rfl (by decide) (by decide) (za_runV C hP hD hS [0, 1, 2, 3, 4, 5, 6, 7, 8, 9, 10, 11, 12, 13, 14, 15, 16, 17] rfl (by decide) rfl (kX10_escape l g E h ad M x (zm_K_le hk (by decide))) w_1075 mX10_escape 0 rfl rfl rfl rfl hl.1 rfl (Nat.le_of_ble_eq_true rfl) dX10_quoted_119 ⟨by decide, by decide⟩ ⟨by decide, by decide⟩) (fun M20 H locs hM20 hP hD hS => ?_)
        have hP : va_P g.1 vwCl (zm_ws g h ad M20) H := hP
        have hD : va_D A (zm_ws g h ad M20) := hD
        refine lv_goto (tgt := 229) hx hb dX10_quoted_122 (by decide) ?_
        subst hM20
        exact zm_rv hQ hx hb hr hlocks hK hP hD hS (by simp [zm_quoted, zq_upd, c_4, c_99, c_114]) dX10_quoted_229
    · refine lv_aload_n hx hb dX10_quoted_102 rfl (lv_at hl 0 rfl) ?_
      refine lv_iload_n hx hb dX10_quoted_103 rfl (lv_at hl 1 rfl) ?_
      refine za_cv (wc := zm_ws g h ad M) (wr := []) C hP hD hS [0, 1, 2, 3, 4, 5, 6, 7, 8, 9, 10, 11, 12, 13, 14, 15, 16, 17] [] rfl rfl (by decide) (by decide) (za_runV C hP hD hS [0, 1, 2, 3, 4, 5, 6, 7, 8, 9, 10, 11, 12, 13, 14, 15, 16, 17] rfl (by decide) rfl (kX10_number2 l g E h ad M x hk D (hd9 c_99) hD9) w_1066 mX10_number2 0 rfl rfl rfl rfl hl.1 rfl (Nat.le_of_ble_eq_true rfl) dX10_quoted_104 ⟨by decide, by decide⟩ ⟨by decide, by decide⟩) (fun M21 H locs hM21 hP hD hS => ?_)
      have hP : va_P g.1 vwCl (zm_ws g h ad M21) H := hP
      have hD : va_D A (zm_ws g h ad M21) := hD
      refine lv_goto (tgt := 229) hx hb dX10_quoted_107 (by decide) ?_
      subst hM21
      exact zm_rv hQ hx hb hr hlocks hK hP hD hS (by simp [zm_quoted, zq_upd, c_4, c_99]) dX10_quoted_229
  · refine lv_iload_n hx hb dX10_quoted_7 rfl (lv_at hl 1 rfl) ?_
    refine lv_aload_n hx hb dX10_quoted_8 rfl (lv_at hl 0 rfl) ?_
    refine va_get (ci := 9) (v := .int (M.1 34)) hx hb hts iX10 hown hK hP 0 rfl rfl 34 (by decide) (hts _ w_845) (fun _ h9 => h9) rfl dX10_quoted_9 ?_
    refine lv_icmp_lt (tgt := 23) hx hb dX10_quoted_12 (by decide) (fun c_12 => ?_) (fun c_12 => ?_)
    · refine lv_aload_n hx hb dX10_quoted_23 rfl (lv_at hl 0 rfl) ?_
      refine za_cv (wc := zm_ws g h ad M) (wr := []) C hP hD hS [0, 1, 2, 3, 4, 5, 6, 7, 8, 9, 10, 11, 12, 13, 14, 15, 16, 17] [] rfl rfl (by decide) (by decide) (za_runV C hP hD hS [0, 1, 2, 3, 4, 5, 6, 7, 8, 9, 10, 11, 12, 13, 14, 15, 16, 17] rfl (by decide) rfl (kX10_error l g E h ad M  ) w_1010 mX10_error 0 rfl rfl rfl rfl hl.1 rfl (Nat.le_of_ble_eq_true rfl) dX10_quoted_24 ⟨by decide, by decide⟩ ⟨by decide, by decide⟩) (fun M22 H locs hM22 hP hD hS => ?_)
      have hP : va_P g.1 vwCl (zm_ws g h ad M22) H := hP
      have hD : va_D A (zm_ws g h ad M22) := hD
      subst hM22
      exact zm_rv hQ hx hb hr hlocks hK hP hD hS (by simp [zm_quoted, zq_upd, c_4, c_12]) dX10_quoted_27
    · refine lv_iload_n hx hb dX10_quoted_15 rfl (lv_at hl 1 rfl) ?_
      refine lv_aload_n hx hb dX10_quoted_16 rfl (lv_at hl 0 rfl) ?_
      refine va_get (ci := 9) (v := .int (M.1 35)) hx hb hts iX10 hown hK hP 0 rfl rfl 35 (by decide) (hts _ w_846) (fun _ h9 => h9) rfl dX10_quoted_17 ?_
      refine za_icmp_le (tgt := 28) hx hb dX10_quoted_20 (by decide) (fun c_20 => ?_) (fun c_20 => ?_)
      · refine lv_aload_n hx hb dX10_quoted_28 rfl (lv_at hl 0 rfl) ?_
        refine lv_aload_n hx hb dX10_quoted_29 rfl (lv_at hl 0 rfl) ?_
        refine va_get (ci := 9) (v := .int (M.1 38)) hx hb hts iX10 hown hK hP 0 rfl rfl 38 (by decide) (hts _ w_849) (fun _ h9 => h9) rfl dX10_quoted_30 ?_
        refine lv_bipush (v := 6) hx hb dX10_quoted_33 (by decide) ?_
        refine lv_ishl hx hb dX10_quoted_35 ?_
        refine lv_iload_n hx hb dX10_quoted_36 rfl (lv_at hl 1 rfl) ?_
        refine lv_bipush (v := 63) hx hb dX10_quoted_37 (by decide) ?_
        refine lv_iand hx hb dX10_quoted_39 ?_
        refine lv_ior hx hb dX10_quoted_40 ?_
        refine va_put (ci := 9) (fs := zm_fs ad M.1) (v := .int (((M.1 38) <<< (6 &&& 31)) ||| (x &&& 63))) hx hb hts iX10 tyX10 tyX10_ok nmX10 hown hK hP hD hS 0 rfl rfl 38 (by decide) (hts _ w_849) (fun _ h9 => h9) rfl (tyX10_ok 38 (by decide)) rfl rfl (Nat.le_of_ble_eq_true rfl) dX10_quoted_41 (fun H locs hP hD hS => ?_)
        have hP := zm_pf38 (X := M) hP
        have hD := zm_df38 (X := M) hD
        refine lv_aload_n hx hb dX10_quoted_44 rfl (lv_at hl 0 rfl) ?_
        refine lv_sipush (v := 128) hx hb dX10_quoted_45 (by decide) ?_
        refine va_put (ci := 9) (fs := zm_fs ad (zm_s M 38 (((M.1 38) <<< (6 &&& 31)) ||| (x &&& 63))).1) (v := .int 128) hx hb hts iX10 tyX10 tyX10_ok nmX10 hown hK hP hD hS 0 rfl rfl 34 (by decide) (hts _ w_845) (fun _ h9 => h9) rfl (tyX10_ok 34 (by decide)) rfl rfl (Nat.le_of_ble_eq_true rfl) dX10_quoted_48 (fun H locs hP hD hS => ?_)
        have hP := zm_pf34 (X := zm_s M 38 (((M.1 38) <<< (6 &&& 31)) ||| (x &&& 63))) hP
        have hD := zm_df34 (X := zm_s M 38 (((M.1 38) <<< (6 &&& 31)) ||| (x &&& 63))) hD
        refine lv_aload_n hx hb dX10_quoted_51 rfl (lv_at hl 0 rfl) ?_
        refine lv_sipush (v := 191) hx hb dX10_quoted_52 (by decide) ?_
        refine va_put (ci := 9) (fs := zm_fs ad (zm_s (zm_s M 38 (((M.1 38) <<< (6 &&& 31)) ||| (x &&& 63))) 34 128).1) (v := .int 191) hx hb hts iX10 tyX10 tyX10_ok nmX10 hown hK hP hD hS 0 rfl rfl 35 (by decide) (hts _ w_846) (fun _ h9 => h9) rfl (tyX10_ok 35 (by decide)) rfl rfl (Nat.le_of_ble_eq_true rfl) dX10_quoted_55 (fun H locs hP hD hS => ?_)
        have hP := zm_pf35 (X := zm_s (zm_s M 38 (((M.1 38) <<< (6 &&& 31)) ||| (x &&& 63))) 34 128) hP
        have hD := zm_df35 (X := zm_s (zm_s M 38 (((M.1 38) <<< (6 &&& 31)) ||| (x &&& 63))) 34 128) hD
        refine lv_aload_n hx hb dX10_quoted_58 rfl (lv_at hl 0 rfl) ?_
        refine lv_dup hx hb dX10_quoted_59 rfl ?_
        refine va_get (ci := 9) (v := .int (M.1 33)) hx hb hts iX10 hown hK hP 0 rfl rfl 33 (by decide) (hts _ w_844) (fun _ h9 => h9) rfl dX10_quoted_60 ?_
        refine lv_iconst (v := 1) hx hb dX10_quoted_63 (by decide) ?_
        refine lv_isub hx hb dX10_quoted_64 ?_
        refine va_put (ci := 9) (fs := zm_fs ad (zm_s (zm_s (zm_s M 38 (((M.1 38) <<< (6 &&& 31)) ||| (x &&& 63))) 34 128) 35 191).1) (v := .int ((M.1 33) - 1)) hx hb hts iX10 tyX10 tyX10_ok nmX10 hown hK hP hD hS 0 rfl rfl 33 (by decide) (hts _ w_844) (fun _ h9 => h9) rfl (tyX10_ok 33 (by decide)) rfl rfl (Nat.le_of_ble_eq_true rfl) dX10_quoted_65 (fun H locs hP hD hS => ?_)
        have hP := zm_pf33 (X := zm_s (zm_s (zm_s M 38 (((M.1 38) <<< (6 &&& 31)) ||| (x &&& 63))) 34 128) 35 191) hP
        have hD := zm_df33 (X := zm_s (zm_s (zm_s M 38 (((M.1 38) <<< (6 &&& 31)) ||| (x &&& 63))) 34 128) 35 191) hD
        refine lv_aload_n hx hb dX10_quoted_68 rfl (lv_at hl 0 rfl) ?_
        refine va_get (ci := 9) (v := .int (M.1 32)) hx hb hts iX10 hown hK hP 0 rfl rfl 32 (by decide) (hts _ w_843) (fun _ h9 => h9) rfl dX10_quoted_69 ?_
        refine lv_if_eq (tgt := 80) hx hb dX10_quoted_72 (by decide) (fun c_72 => ?_) (fun c_72 => ?_)
        · refine lv_aload_n hx hb dX10_quoted_80 rfl (lv_at hl 0 rfl) ?_
          refine va_get (ci := 9) (v := .int ((M.1 33) - 1)) hx hb hts iX10 hown hK hP 0 rfl rfl 33 (by decide) (hts _ w_844) (fun _ h9 => h9) rfl dX10_quoted_81 ?_
          refine lv_if_ne (tgt := 229) hx hb dX10_quoted_84 (by decide) (fun c_84 => ?_) (fun c_84 => ?_)
          · exact zm_rv hQ hx hb hr hlocks hK hP hD hS (by simp [zm_quoted, zq_upd, c_4, c_12, c_20, eq_true c_72, c_84]) dX10_quoted_229
          · refine lv_aload_n hx hb dX10_quoted_87 rfl (lv_at hl 0 rfl) ?_
            refine lv_iconst (v := 1) hx hb dX10_quoted_88 (by decide) ?_
            refine va_put (ci := 9) (fs := zm_fs ad (zm_s (zm_s (zm_s (zm_s M 38 (((M.1 38) <<< (6 &&& 31)) ||| (x &&& 63))) 34 128) 35 191) 33 ((M.1 33) - 1)).1) (v := .int 1) hx hb hts iX10 tyX10 tyX10_ok nmX10 hown hK hP hD hS 0 rfl rfl 41 (by decide) (hts _ w_852) (fun _ h9 => h9) rfl (tyX10_ok 41 (by decide)) rfl rfl (Nat.le_of_ble_eq_true rfl) dX10_quoted_89 (fun H locs hP hD hS => ?_)
            have hP := zm_pf41 (X := zm_s (zm_s (zm_s (zm_s M 38 (((M.1 38) <<< (6 &&& 31)) ||| (x &&& 63))) 34 128) 35 191) 33 ((M.1 33) - 1)) hP
            have hD := zm_df41 (X := zm_s (zm_s (zm_s (zm_s M 38 (((M.1 38) <<< (6 &&& 31)) ||| (x &&& 63))) 34 128) 35 191) 33 ((M.1 33) - 1)) hD
            refine lv_goto (tgt := 229) hx hb dX10_quoted_92 (by decide) ?_
            exact zm_rv hQ hx hb hr hlocks hK hP hD hS (by simp [zm_quoted, zq_upd, c_4, c_12, c_20, eq_true c_72, eq_true c_84]) dX10_quoted_229
        · refine lv_aload_n hx hb dX10_quoted_75 rfl (lv_at hl 0 rfl) ?_
          refine lv_iload_n hx hb dX10_quoted_76 rfl (lv_at hl 1 rfl) ?_
          refine za_cv (wc := zm_ws g h ad (zm_s (zm_s (zm_s (zm_s M 38 (((M.1 38) <<< (6 &&& 31)) ||| (x &&& 63))) 34 128) 35 191) 33 ((M.1 33) - 1))) (wr := []) C hP hD hS [0, 1, 2, 3, 4, 5, 6, 7, 8, 9, 10, 11, 12, 13, 14, 15, 16, 17] [] rfl rfl (by decide) (by decide) (za_runV C hP hD hS [0, 1, 2, 3, 4, 5, 6, 7, 8, 9, 10, 11, 12, 13, 14, 15, 16, 17] rfl (by decide) rfl (kX10_keep l g E h ad (zm_s (zm_s (zm_s (zm_s M 38 (((M.1 38) <<< (6 &&& 31)) ||| (x &&& 63))) 34 128) 35 191) 33 ((M.1 33) - 1)) x (zm_K_in (n := 3) hk)) w_1027 mX10_keep 0 rfl rfl rfl rfl hl.1 rfl (Nat.le_of_ble_eq_true rfl) dX10_quoted_77 ⟨by decide, by decide⟩ ⟨by decide, by decide⟩) (fun M23 H locs hM23 hP hD hS => ?_)
          have hP : va_P g.1 vwCl (zm_ws g h ad M23) H := hP
          have hD : va_D A (zm_ws g h ad M23) := hD
          refine lv_aload_n hx hb dX10_quoted_80 rfl (lv_at hl 0 rfl) ?_
          refine va_get (ci := 9) (v := .int (M23.1 33)) hx hb hts iX10 hown hK hP 0 rfl rfl 33 (by decide) (hts _ w_844) (fun _ h9 => h9) rfl dX10_quoted_81 ?_
          refine lv_if_ne (tgt := 229) hx hb dX10_quoted_84 (by decide) (fun c_84 => ?_) (fun c_84 => ?_)
          · subst hM23
            exact zm_rv hQ hx hb hr hlocks hK hP hD hS (by simp [zm_quoted, zq_upd, c_4, c_12, c_20, c_72, c_84]) dX10_quoted_229
          · refine lv_aload_n hx hb dX10_quoted_87 rfl (lv_at hl 0 rfl) ?_
            refine lv_iconst (v := 1) hx hb dX10_quoted_88 (by decide) ?_
            refine va_put (ci := 9) (fs := zm_fs ad M23.1) (v := .int 1) hx hb hts iX10 tyX10 tyX10_ok nmX10 hown hK hP hD hS 0 rfl rfl 41 (by decide) (hts _ w_852) (fun _ h9 => h9) rfl (tyX10_ok 41 (by decide)) rfl rfl (Nat.le_of_ble_eq_true rfl) dX10_quoted_89 (fun H locs hP hD hS => ?_)
            have hP := zm_pf41 (X := M23) hP
            have hD := zm_df41 (X := M23) hD
            refine lv_goto (tgt := 229) hx hb dX10_quoted_92 (by decide) ?_
            subst hM23
            exact zm_rv hQ hx hb hr hlocks hK hP hD hS (by simp [zm_quoted, zq_upd, c_4, c_12, c_20, c_72, eq_true c_84]) dX10_quoted_229
      · refine lv_aload_n hx hb dX10_quoted_23 rfl (lv_at hl 0 rfl) ?_
        refine za_cv (wc := zm_ws g h ad M) (wr := []) C hP hD hS [0, 1, 2, 3, 4, 5, 6, 7, 8, 9, 10, 11, 12, 13, 14, 15, 16, 17] [] rfl rfl (by decide) (by decide) (za_runV C hP hD hS [0, 1, 2, 3, 4, 5, 6, 7, 8, 9, 10, 11, 12, 13, 14, 15, 16, 17] rfl (by decide) rfl (kX10_error l g E h ad M  ) w_1010 mX10_error 0 rfl rfl rfl rfl hl.1 rfl (Nat.le_of_ble_eq_true rfl) dX10_quoted_24 ⟨by decide, by decide⟩ ⟨by decide, by decide⟩) (fun M24 H locs hM24 hP hD hS => ?_)
        have hP : va_P g.1 vwCl (zm_ws g h ad M24) H := hP
        have hD : va_D A (zm_ws g h ad M24) := hD
        subst hM24
        exact zm_rv hQ hx hb hr hlocks hK hP hD hS (by simp [zm_quoted, zq_upd, c_4, c_12, c_20]) dX10_quoted_27
set_option maxHeartbeats 4000000 in
set_option maxRecDepth 100000 in
theorem kX10_comment (l : Launch) (g : za_G) (E : za_E) (h : Nat) (ad : Nat → Nat) (M : zm_M) (x : Int32) (hT : zm_T M) (hs : ¬ M.1 23 < 0) (hk : zm_K M 4) (D : Nat) (hd9 : 0 < M.1 36 → M.1 36 - 1 = nI D) (hD9 : D < 100) : za_Cv l g E yX10_comment cX10_comment 2 6 0 0 [.ref h, .int x] (zm_ws g h ad M) (fun u : zm_M => u = zm_comment M x) (fun u => zm_ws g h ad u) := by
  refine za_begin (by decide) (Nat.le_of_ble_eq_true rfl) RX10 rfl ?_
  intro p e s m args below meth co A ls Q H locs C hQ hr hlocks hnm hS hP hD hl
  obtain ⟨hx, hb, hml, hown, hts, hK, hA, hE⟩ := id C
  have hl : lv_has ls 2 [(0, .ref h), (1, .int x)] := hl
  refine lv_aload_n hx hb dX10_comment_0 rfl (lv_at hl 0 rfl) ?_
  refine va_get (ci := 9) (v := .int (M.1 21)) hx hb hts iX10 hown hK hP 0 rfl rfl 21 (by decide) (hts _ w_832) (fun _ h9 => h9) rfl dX10_comment_1 ?_
  refine lv_bipush (v := 18) hx hb dX10_comment_4 (by decide) ?_
  refine lv_icmp_ne (tgt := 38) hx hb dX10_comment_6 (by decide) (fun c_6 => ?_) (fun c_6 => ?_)
  · refine lv_aload_n hx hb dX10_comment_38 rfl (lv_at hl 0 rfl) ?_
    refine va_get (ci := 9) (v := .int (M.1 21)) hx hb hts iX10 hown hK hP 0 rfl rfl 21 (by decide) (hts _ w_832) (fun _ h9 => h9) rfl dX10_comment_39 ?_
    refine lv_bipush (v := 20) hx hb dX10_comment_42 (by decide) ?_
    refine lv_icmp_ne (tgt := 59) hx hb dX10_comment_44 (by decide) (fun c_44 => ?_) (fun c_44 => ?_)
    · refine lv_iload_n hx hb dX10_comment_59 rfl (lv_at hl 1 rfl) ?_
      refine lv_bipush (v := 10) hx hb dX10_comment_60 (by decide) ?_
      refine lv_icmp_ne (tgt := 88) hx hb dX10_comment_62 (by decide) (fun c_62 => ?_) (fun c_62 => ?_)
      · refine lv_aload_n hx hb dX10_comment_88 rfl (lv_at hl 0 rfl) ?_
        refine lv_iconst (v := 0) hx hb dX10_comment_89 (by decide) ?_
        refine va_put (ci := 9) (fs := zm_fs ad M.1) (v := .int 0) hx hb hts iX10 tyX10 tyX10_ok nmX10 hown hK hP hD hS 0 rfl rfl 32 (by decide) (hts _ w_843) (fun _ h9 => h9) rfl (tyX10_ok 32 (by decide)) rfl rfl (Nat.le_of_ble_eq_true rfl) dX10_comment_90 (fun H locs hP hD hS => ?_)
        have hP := zm_pf32 (X := M) hP
        have hD := zm_df32 (X := M) hD
        refine lv_iload_n hx hb dX10_comment_93 rfl (lv_at hl 1 rfl) ?_
        refine lv_if_ne (tgt := 102) hx hb dX10_comment_94 (by decide) (fun c_94 => ?_) (fun c_94 => ?_)
        · refine lv_aload_n hx hb dX10_comment_102 rfl (lv_at hl 0 rfl) ?_
          refine lv_iload_n hx hb dX10_comment_103 rfl (lv_at hl 1 rfl) ?_
          refine lv_if_ne (tgt := 111) hx hb dX10_comment_104 (by decide) (fun c_104 => ?_) (fun c_104 => ?_)
          · refine lv_iload_n hx hb dX10_comment_111 rfl (lv_at hl 1 rfl) ?_
            refine za_cv (wc := zm_ws g h ad (zm_s M 32 0)) (wr := []) C hP hD hS [0, 1, 2, 3, 4, 5, 6, 7, 8, 9, 10, 11, 12, 13, 14, 15, 16, 17] [] rfl rfl (by decide) (by decide) (za_runV C hP hD hS [0, 1, 2, 3, 4, 5, 6, 7, 8, 9, 10, 11, 12, 13, 14, 15, 16, 17] rfl (by decide) rfl (kX10_quoted l g E h ad (zm_s M 32 0) x hT hs hk D hd9 hD9) w_1062 mX10_quoted 0 rfl rfl rfl rfl hl.1 rfl (Nat.le_of_ble_eq_true rfl) dX10_comment_112 ⟨by decide, by decide⟩ ⟨by decide, by decide⟩) (fun M1 H locs hM1 hP hD hS => ?_)
            have hP : va_P g.1 vwCl (zm_ws g h ad M1) H := hP
            have hD : va_D A (zm_ws g h ad M1) := hD
            refine lv_aload_n hx hb dX10_comment_115 rfl (lv_at hl 0 rfl) ?_
            refine va_get (ci := 9) (v := .int (M1.1 21)) hx hb hts iX10 hown hK hP 0 rfl rfl 21 (by decide) (hts _ w_832) (fun _ h9 => h9) rfl dX10_comment_116 ?_
            refine lv_bipush (v := 18) hx hb dX10_comment_119 (by decide) ?_
            refine lv_icmp_eq (tgt := 141) hx hb dX10_comment_121 (by decide) (fun c_121 => ?_) (fun c_121 => ?_)
            · subst hM1
              exact zm_rv hQ hx hb hr hlocks hK hP hD hS (by simp [zm_comment, zq_upd, c_6, c_44, c_62, c_94, c_104, eq_true c_121]) dX10_comment_141
            · refine lv_aload_n hx hb dX10_comment_124 rfl (lv_at hl 0 rfl) ?_
              have J_138 : ∀ v9 : Int32, v9 = (zr_cm x) → W p l e (za_R 6 0 0) s m args below meth co H locs 0 0 Q (F0 m 138 ls (.int v9 :: [.ref h])) := by
                intro v_138 hv_138
                refine va_put (ci := 9) (fs := zm_fs ad M1.1) (v := .int v_138) hx hb hts iX10 tyX10 tyX10_ok nmX10 hown hK hP hD hS 0 rfl rfl 21 (by decide) (hts _ w_832) (fun _ h9 => h9) rfl (tyX10_ok 21 (by decide)) rfl rfl (Nat.le_of_ble_eq_true rfl) dX10_comment_138 (fun H locs hP hD hS => ?_)
                have hP := zm_pf21 (X := M1) hP
                have hD := zm_df21 (X := M1) hD
                subst hv_138
                subst hM1
                exact zm_rv hQ hx hb hr hlocks hK hP hD hS (by simp [zm_comment, zq_upd, c_6, c_44, c_62, c_94, c_104, c_121]) dX10_comment_141
              refine lv_iload_n hx hb dX10_comment_125 rfl (lv_at hl 1 rfl) ?_
              refine lv_bipush (v := 42) hx hb dX10_comment_126 (by decide) ?_
              refine lv_icmp_ne (tgt := 136) hx hb dX10_comment_128 (by decide) (fun c_128 => ?_) (fun c_128 => ?_)
              · refine lv_bipush (v := 19) hx hb dX10_comment_136 (by decide) ?_
                exact J_138 19 (by simp [zr_cm, c_6, c_44, c_62, c_94, c_104, c_121, c_128])
              · refine lv_bipush (v := 20) hx hb dX10_comment_131 (by decide) ?_
                refine lv_goto (tgt := 138) hx hb dX10_comment_133 (by decide) ?_
                exact J_138 20 (by simp [zr_cm, c_6, c_44, c_62, c_94, c_104, c_121, eq_true c_128])
          · exact absurd c_104 c_94
        · refine lv_aload_n hx hb dX10_comment_97 rfl (lv_at hl 0 rfl) ?_
          refine za_cv (wc := zm_ws g h ad (zm_s M 32 0)) (wr := []) C hP hD hS [0, 1, 2, 3, 4, 5, 6, 7, 8, 9, 10, 11, 12, 13, 14, 15, 16, 17] [] rfl rfl (by decide) (by decide) (za_runV C hP hD hS [0, 1, 2, 3, 4, 5, 6, 7, 8, 9, 10, 11, 12, 13, 14, 15, 16, 17] rfl (by decide) rfl (kX10_error l g E h ad (zm_s M 32 0)  ) w_1010 mX10_error 0 rfl rfl rfl rfl hl.1 rfl (Nat.le_of_ble_eq_true rfl) dX10_comment_98 ⟨by decide, by decide⟩ ⟨by decide, by decide⟩) (fun M2 H locs hM2 hP hD hS => ?_)
          have hP : va_P g.1 vwCl (zm_ws g h ad M2) H := hP
          have hD : va_D A (zm_ws g h ad M2) := hD
          subst hM2
          exact zm_rv hQ hx hb hr hlocks hK hP hD hS (by simp [zm_comment, zq_upd, c_6, c_44, c_62, eq_true c_94]) dX10_comment_101
      · refine lv_aload_n hx hb dX10_comment_65 rfl (lv_at hl 0 rfl) ?_
        refine va_get (ci := 9) (v := .int (M.1 33)) hx hb hts iX10 hown hK hP 0 rfl rfl 33 (by decide) (hts _ w_844) (fun _ h9 => h9) rfl dX10_comment_66 ?_
        refine lv_if_ne (tgt := 88) hx hb dX10_comment_69 (by decide) (fun c_69 => ?_) (fun c_69 => ?_)
        · refine lv_aload_n hx hb dX10_comment_88 rfl (lv_at hl 0 rfl) ?_
          refine lv_iconst (v := 0) hx hb dX10_comment_89 (by decide) ?_
          refine va_put (ci := 9) (fs := zm_fs ad M.1) (v := .int 0) hx hb hts iX10 tyX10 tyX10_ok nmX10 hown hK hP hD hS 0 rfl rfl 32 (by decide) (hts _ w_843) (fun _ h9 => h9) rfl (tyX10_ok 32 (by decide)) rfl rfl (Nat.le_of_ble_eq_true rfl) dX10_comment_90 (fun H locs hP hD hS => ?_)
          have hP := zm_pf32 (X := M) hP
          have hD := zm_df32 (X := M) hD
          refine lv_iload_n hx hb dX10_comment_93 rfl (lv_at hl 1 rfl) ?_
          refine lv_if_ne (tgt := 102) hx hb dX10_comment_94 (by decide) (fun c_94 => ?_) (fun c_94 => ?_)
          · refine lv_aload_n hx hb dX10_comment_102 rfl (lv_at hl 0 rfl) ?_
            refine lv_iload_n hx hb dX10_comment_103 rfl (lv_at hl 1 rfl) ?_
            refine lv_if_ne (tgt := 111) hx hb dX10_comment_104 (by decide) (fun c_104 => ?_) (fun c_104 => ?_)
            · refine lv_iload_n hx hb dX10_comment_111 rfl (lv_at hl 1 rfl) ?_
              refine za_cv (wc := zm_ws g h ad (zm_s M 32 0)) (wr := []) C hP hD hS [0, 1, 2, 3, 4, 5, 6, 7, 8, 9, 10, 11, 12, 13, 14, 15, 16, 17] [] rfl rfl (by decide) (by decide) (za_runV C hP hD hS [0, 1, 2, 3, 4, 5, 6, 7, 8, 9, 10, 11, 12, 13, 14, 15, 16, 17] rfl (by decide) rfl (kX10_quoted l g E h ad (zm_s M 32 0) x hT hs hk D hd9 hD9) w_1062 mX10_quoted 0 rfl rfl rfl rfl hl.1 rfl (Nat.le_of_ble_eq_true rfl) dX10_comment_112 ⟨by decide, by decide⟩ ⟨by decide, by decide⟩) (fun M3 H locs hM3 hP hD hS => ?_)
              have hP : va_P g.1 vwCl (zm_ws g h ad M3) H := hP
              have hD : va_D A (zm_ws g h ad M3) := hD
              refine lv_aload_n hx hb dX10_comment_115 rfl (lv_at hl 0 rfl) ?_
              refine va_get (ci := 9) (v := .int (M3.1 21)) hx hb hts iX10 hown hK hP 0 rfl rfl 21 (by decide) (hts _ w_832) (fun _ h9 => h9) rfl dX10_comment_116 ?_
              refine lv_bipush (v := 18) hx hb dX10_comment_119 (by decide) ?_
              refine lv_icmp_eq (tgt := 141) hx hb dX10_comment_121 (by decide) (fun c_121 => ?_) (fun c_121 => ?_)
              · subst hM3
                exact zm_rv hQ hx hb hr hlocks hK hP hD hS (by simp [zm_comment, zq_upd, c_6, c_44, eq_true c_62, c_69, c_94, c_104, eq_true c_121]) dX10_comment_141
              · refine lv_aload_n hx hb dX10_comment_124 rfl (lv_at hl 0 rfl) ?_
                have J_138 : ∀ v9 : Int32, v9 = (zr_cm x) → W p l e (za_R 6 0 0) s m args below meth co H locs 0 0 Q (F0 m 138 ls (.int v9 :: [.ref h])) := by
                  intro v_138 hv_138
                  refine va_put (ci := 9) (fs := zm_fs ad M3.1) (v := .int v_138) hx hb hts iX10 tyX10 tyX10_ok nmX10 hown hK hP hD hS 0 rfl rfl 21 (by decide) (hts _ w_832) (fun _ h9 => h9) rfl (tyX10_ok 21 (by decide)) rfl rfl (Nat.le_of_ble_eq_true rfl) dX10_comment_138 (fun H locs hP hD hS => ?_)
                  have hP := zm_pf21 (X := M3) hP
                  have hD := zm_df21 (X := M3) hD
                  subst hv_138
                  subst hM3
                  exact zm_rv hQ hx hb hr hlocks hK hP hD hS (by simp [zm_comment, zq_upd, c_6, c_44, eq_true c_62, c_69, c_94, c_104, c_121]) dX10_comment_141
                refine lv_iload_n hx hb dX10_comment_125 rfl (lv_at hl 1 rfl) ?_
                refine lv_bipush (v := 42) hx hb dX10_comment_126 (by decide) ?_
                refine lv_icmp_ne (tgt := 136) hx hb dX10_comment_128 (by decide) (fun c_128 => ?_) (fun c_128 => ?_)
                · refine lv_bipush (v := 19) hx hb dX10_comment_136 (by decide) ?_
                  exact J_138 19 (by simp [zr_cm, c_6, c_44, eq_true c_62, c_69, c_94, c_104, c_121, c_128])
                · refine lv_bipush (v := 20) hx hb dX10_comment_131 (by decide) ?_
                  refine lv_goto (tgt := 138) hx hb dX10_comment_133 (by decide) ?_
                  exact J_138 20 (by simp [zr_cm, c_6, c_44, eq_true c_62, c_69, c_94, c_104, c_121, eq_true c_128])
            · exact absurd c_104 c_94
          · refine lv_aload_n hx hb dX10_comment_97 rfl (lv_at hl 0 rfl) ?_
            refine za_cv (wc := zm_ws g h ad (zm_s M 32 0)) (wr := []) C hP hD hS [0, 1, 2, 3, 4, 5, 6, 7, 8, 9, 10, 11, 12, 13, 14, 15, 16, 17] [] rfl rfl (by decide) (by decide) (za_runV C hP hD hS [0, 1, 2, 3, 4, 5, 6, 7, 8, 9, 10, 11, 12, 13, 14, 15, 16, 17] rfl (by decide) rfl (kX10_error l g E h ad (zm_s M 32 0)  ) w_1010 mX10_error 0 rfl rfl rfl rfl hl.1 rfl (Nat.le_of_ble_eq_true rfl) dX10_comment_98 ⟨by decide, by decide⟩ ⟨by decide, by decide⟩) (fun M4 H locs hM4 hP hD hS => ?_)
            have hP : va_P g.1 vwCl (zm_ws g h ad M4) H := hP
            have hD : va_D A (zm_ws g h ad M4) := hD
            subst hM4
            exact zm_rv hQ hx hb hr hlocks hK hP hD hS (by simp [zm_comment, zq_upd, c_6, c_44, eq_true c_62, c_69, eq_true c_94]) dX10_comment_101
        · refine lv_aload_n hx hb dX10_comment_72 rfl (lv_at hl 0 rfl) ?_
          refine va_get (ci := 9) (v := .int (M.1 31)) hx hb hts iX10 hown hK hP 0 rfl rfl 31 (by decide) (hts _ w_842) (fun _ h9 => h9) rfl dX10_comment_73 ?_
          refine lv_if_ne (tgt := 88) hx hb dX10_comment_76 (by decide) (fun c_76 => ?_) (fun c_76 => ?_)
          · refine lv_aload_n hx hb dX10_comment_88 rfl (lv_at hl 0 rfl) ?_
            refine lv_iconst (v := 0) hx hb dX10_comment_89 (by decide) ?_
            refine va_put (ci := 9) (fs := zm_fs ad M.1) (v := .int 0) hx hb hts iX10 tyX10 tyX10_ok nmX10 hown hK hP hD hS 0 rfl rfl 32 (by decide) (hts _ w_843) (fun _ h9 => h9) rfl (tyX10_ok 32 (by decide)) rfl rfl (Nat.le_of_ble_eq_true rfl) dX10_comment_90 (fun H locs hP hD hS => ?_)
            have hP := zm_pf32 (X := M) hP
            have hD := zm_df32 (X := M) hD
            refine lv_iload_n hx hb dX10_comment_93 rfl (lv_at hl 1 rfl) ?_
            refine lv_if_ne (tgt := 102) hx hb dX10_comment_94 (by decide) (fun c_94 => ?_) (fun c_94 => ?_)
            · refine lv_aload_n hx hb dX10_comment_102 rfl (lv_at hl 0 rfl) ?_
              refine lv_iload_n hx hb dX10_comment_103 rfl (lv_at hl 1 rfl) ?_
              refine lv_if_ne (tgt := 111) hx hb dX10_comment_104 (by decide) (fun c_104 => ?_) (fun c_104 => ?_)
              · refine lv_iload_n hx hb dX10_comment_111 rfl (lv_at hl 1 rfl) ?_
                refine za_cv (wc := zm_ws g h ad (zm_s M 32 0)) (wr := []) C hP hD hS [0, 1, 2, 3, 4, 5, 6, 7, 8, 9, 10, 11, 12, 13, 14, 15, 16, 17] [] rfl rfl (by decide) (by decide) (za_runV C hP hD hS [0, 1, 2, 3, 4, 5, 6, 7, 8, 9, 10, 11, 12, 13, 14, 15, 16, 17] rfl (by decide) rfl (kX10_quoted l g E h ad (zm_s M 32 0) x hT hs hk D hd9 hD9) w_1062 mX10_quoted 0 rfl rfl rfl rfl hl.1 rfl (Nat.le_of_ble_eq_true rfl) dX10_comment_112 ⟨by decide, by decide⟩ ⟨by decide, by decide⟩) (fun M5 H locs hM5 hP hD hS => ?_)
                have hP : va_P g.1 vwCl (zm_ws g h ad M5) H := hP
                have hD : va_D A (zm_ws g h ad M5) := hD
                refine lv_aload_n hx hb dX10_comment_115 rfl (lv_at hl 0 rfl) ?_
                refine va_get (ci := 9) (v := .int (M5.1 21)) hx hb hts iX10 hown hK hP 0 rfl rfl 21 (by decide) (hts _ w_832) (fun _ h9 => h9) rfl dX10_comment_116 ?_
                refine lv_bipush (v := 18) hx hb dX10_comment_119 (by decide) ?_
                refine lv_icmp_eq (tgt := 141) hx hb dX10_comment_121 (by decide) (fun c_121 => ?_) (fun c_121 => ?_)
                · subst hM5
                  exact zm_rv hQ hx hb hr hlocks hK hP hD hS (by simp [zm_comment, zq_upd, c_6, c_44, eq_true c_62, eq_true c_69, c_76, c_94, c_104, eq_true c_121]) dX10_comment_141
                · refine lv_aload_n hx hb dX10_comment_124 rfl (lv_at hl 0 rfl) ?_
                  have J_138 : ∀ v9 : Int32, v9 = (zr_cm x) → W p l e (za_R 6 0 0) s m args below meth co H locs 0 0 Q (F0 m 138 ls (.int v9 :: [.ref h])) := by
                    intro v_138 hv_138
                    refine va_put (ci := 9) (fs := zm_fs ad M5.1) (v := .int v_138) hx hb hts iX10 tyX10 tyX10_ok nmX10 hown hK hP hD hS 0 rfl rfl 21 (by decide) (hts _ w_832) (fun _ h9 => h9) rfl (tyX10_ok 21 (by decide)) rfl rfl (Nat.le_of_ble_eq_true rfl) dX10_comment_138 (fun H locs hP hD hS => ?_)
                    have hP := zm_pf21 (X := M5) hP
                    have hD := zm_df21 (X := M5) hD
                    subst hv_138
                    subst hM5
                    exact zm_rv hQ hx hb hr hlocks hK hP hD hS (by simp [zm_comment, zq_upd, c_6, c_44, eq_true c_62, eq_true c_69, c_76, c_94, c_104, c_121]) dX10_comment_141
                  refine lv_iload_n hx hb dX10_comment_125 rfl (lv_at hl 1 rfl) ?_
                  refine lv_bipush (v := 42) hx hb dX10_comment_126 (by decide) ?_
                  refine lv_icmp_ne (tgt := 136) hx hb dX10_comment_128 (by decide) (fun c_128 => ?_) (fun c_128 => ?_)
                  · refine lv_bipush (v := 19) hx hb dX10_comment_136 (by decide) ?_
                    exact J_138 19 (by simp [zr_cm, c_6, c_44, eq_true c_62, eq_true c_69, c_76, c_94, c_104, c_121, c_128])
                  · refine lv_bipush (v := 20) hx hb dX10_comment_131 (by decide) ?_
                    refine lv_goto (tgt := 138) hx hb dX10_comment_133 (by decide) ?_
                    exact J_138 20 (by simp [zr_cm, c_6, c_44, eq_true c_62, eq_true c_69, c_76, c_94, c_104, c_121, eq_true c_128])
              · exact absurd c_104 c_94
            · refine lv_aload_n hx hb dX10_comment_97 rfl (lv_at hl 0 rfl) ?_
              refine za_cv (wc := zm_ws g h ad (zm_s M 32 0)) (wr := []) C hP hD hS [0, 1, 2, 3, 4, 5, 6, 7, 8, 9, 10, 11, 12, 13, 14, 15, 16, 17] [] rfl rfl (by decide) (by decide) (za_runV C hP hD hS [0, 1, 2, 3, 4, 5, 6, 7, 8, 9, 10, 11, 12, 13, 14, 15, 16, 17] rfl (by decide) rfl (kX10_error l g E h ad (zm_s M 32 0)  ) w_1010 mX10_error 0 rfl rfl rfl rfl hl.1 rfl (Nat.le_of_ble_eq_true rfl) dX10_comment_98 ⟨by decide, by decide⟩ ⟨by decide, by decide⟩) (fun M6 H locs hM6 hP hD hS => ?_)
              have hP : va_P g.1 vwCl (zm_ws g h ad M6) H := hP
              have hD : va_D A (zm_ws g h ad M6) := hD
              subst hM6
              exact zm_rv hQ hx hb hr hlocks hK hP hD hS (by simp [zm_comment, zq_upd, c_6, c_44, eq_true c_62, eq_true c_69, c_76, eq_true c_94]) dX10_comment_101
          · refine lv_aload_n hx hb dX10_comment_79 rfl (lv_at hl 0 rfl) ?_
            refine lv_iconst (v := 1) hx hb dX10_comment_80 (by decide) ?_
            refine va_put (ci := 9) (fs := zm_fs ad M.1) (v := .int 1) hx hb hts iX10 tyX10 tyX10_ok nmX10 hown hK hP hD hS 0 rfl rfl 31 (by decide) (hts _ w_842) (fun _ h9 => h9) rfl (tyX10_ok 31 (by decide)) rfl rfl (Nat.le_of_ble_eq_true rfl) dX10_comment_81 (fun H locs hP hD hS => ?_)
            have hP := zm_pf31 (X := M) hP
            have hD := zm_df31 (X := M) hD
            refine lv_aload_n hx hb dX10_comment_84 rfl (lv_at hl 0 rfl) ?_
            refine za_cv (wc := zm_ws g h ad (zm_s M 31 1)) (wr := []) C hP hD hS [0, 1, 2, 3, 4, 5, 6, 7, 8, 9, 10, 11, 12, 13, 14, 15, 16, 17] [] rfl rfl (by decide) (by decide) (za_runV C hP hD hS [0, 1, 2, 3, 4, 5, 6, 7, 8, 9, 10, 11, 12, 13, 14, 15, 16, 17] rfl (by decide) rfl (kX10_semicolon l g E h ad (zm_s M 31 1)  hT) w_981 mX10_semicolon 0 rfl rfl rfl rfl hl.1 rfl (Nat.le_of_ble_eq_true rfl) dX10_comment_85 ⟨by decide, by decide⟩ ⟨by decide, by decide⟩) (fun M7 H locs hM7 hP hD hS => ?_)
            have hP : va_P g.1 vwCl (zm_ws g h ad M7) H := hP
            have hD : va_D A (zm_ws g h ad M7) := hD
            refine lv_aload_n hx hb dX10_comment_88 rfl (lv_at hl 0 rfl) ?_
            refine lv_iconst (v := 0) hx hb dX10_comment_89 (by decide) ?_
            refine va_put (ci := 9) (fs := zm_fs ad M7.1) (v := .int 0) hx hb hts iX10 tyX10 tyX10_ok nmX10 hown hK hP hD hS 0 rfl rfl 32 (by decide) (hts _ w_843) (fun _ h9 => h9) rfl (tyX10_ok 32 (by decide)) rfl rfl (Nat.le_of_ble_eq_true rfl) dX10_comment_90 (fun H locs hP hD hS => ?_)
            have hP := zm_pf32 (X := M7) hP
            have hD := zm_df32 (X := M7) hD
            refine lv_iload_n hx hb dX10_comment_93 rfl (lv_at hl 1 rfl) ?_
            refine lv_if_ne (tgt := 102) hx hb dX10_comment_94 (by decide) (fun c_94 => ?_) (fun c_94 => ?_)
            · refine lv_aload_n hx hb dX10_comment_102 rfl (lv_at hl 0 rfl) ?_
              refine lv_iload_n hx hb dX10_comment_103 rfl (lv_at hl 1 rfl) ?_
              refine lv_if_ne (tgt := 111) hx hb dX10_comment_104 (by decide) (fun c_104 => ?_) (fun c_104 => ?_)
              · refine lv_iload_n hx hb dX10_comment_111 rfl (lv_at hl 1 rfl) ?_
                refine za_cv (wc := zm_ws g h ad (zm_s M7 32 0)) (wr := []) C hP hD hS [0, 1, 2, 3, 4, 5, 6, 7, 8, 9, 10, 11, 12, 13, 14, 15, 16, 17] [] rfl rfl (by decide) (by decide) (za_runV C hP hD hS [0, 1, 2, 3, 4, 5, 6, 7, 8, 9, 10, 11, 12, 13, 14, 15, 16, 17] rfl (by decide) rfl (kX10_quoted l g E h ad (zm_s M7 32 0) x (by rw [hM7]; exact zm_T_semicolon (M := zm_s M 31 1) hT) (by rw [hM7]; exact zm_semi_23 hs) (by rw [hM7]; exact zm_semi_K hk) D (by rw [hM7]; intro h9; rw [zm_semi_36] at h9 ⊢; exact hd9 h9) hD9) w_1062 mX10_quoted 0 rfl rfl rfl rfl hl.1 rfl (Nat.le_of_ble_eq_true rfl) dX10_comment_112 ⟨by decide, by decide⟩ ⟨by decide, by decide⟩) (fun M8 H locs hM8 hP hD hS => ?_)
                have hP : va_P g.1 vwCl (zm_ws g h ad M8) H := hP
                have hD : va_D A (zm_ws g h ad M8) := hD
                refine lv_aload_n hx hb dX10_comment_115 rfl (lv_at hl 0 rfl) ?_
                refine va_get (ci := 9) (v := .int (M8.1 21)) hx hb hts iX10 hown hK hP 0 rfl rfl 21 (by decide) (hts _ w_832) (fun _ h9 => h9) rfl dX10_comment_116 ?_
                refine lv_bipush (v := 18) hx hb dX10_comment_119 (by decide) ?_
                refine lv_icmp_eq (tgt := 141) hx hb dX10_comment_121 (by decide) (fun c_121 => ?_) (fun c_121 => ?_)
                · subst hM8
                  subst hM7
                  exact zm_rv hQ hx hb hr hlocks hK hP hD hS (by simp [zm_comment, zq_upd, c_6, c_44, eq_true c_62, eq_true c_69, eq_true c_76, c_94, c_104, eq_true c_121]) dX10_comment_141
                · refine lv_aload_n hx hb dX10_comment_124 rfl (lv_at hl 0 rfl) ?_
                  have J_138 : ∀ v9 : Int32, v9 = (zr_cm x) → W p l e (za_R 6 0 0) s m args below meth co H locs 0 0 Q (F0 m 138 ls (.int v9 :: [.ref h])) := by
                    intro v_138 hv_138
                    refine va_put (ci := 9) (fs := zm_fs ad M8.1) (v := .int v_138) hx hb hts iX10 tyX10 tyX10_ok nmX10 hown hK hP hD hS 0 rfl rfl 21 (by decide) (hts _ w_832) (fun _ h9 => h9) rfl (tyX10_ok 21 (by decide)) rfl rfl (Nat.le_of_ble_eq_true rfl) dX10_comment_138 (fun H locs hP hD hS => ?_)
                    have hP := zm_pf21 (X := M8) hP
                    have hD := zm_df21 (X := M8) hD
                    subst hv_138
                    subst hM8
                    subst hM7
                    exact zm_rv hQ hx hb hr hlocks hK hP hD hS (by simp [zm_comment, zq_upd, c_6, c_44, eq_true c_62, eq_true c_69, eq_true c_76, c_94, c_104, c_121]) dX10_comment_141
                  refine lv_iload_n hx hb dX10_comment_125 rfl (lv_at hl 1 rfl) ?_
                  refine lv_bipush (v := 42) hx hb dX10_comment_126 (by decide) ?_
                  refine lv_icmp_ne (tgt := 136) hx hb dX10_comment_128 (by decide) (fun c_128 => ?_) (fun c_128 => ?_)
                  · refine lv_bipush (v := 19) hx hb dX10_comment_136 (by decide) ?_
                    exact J_138 19 (by simp [zr_cm, c_6, c_44, eq_true c_62, eq_true c_69, eq_true c_76, c_94, c_104, c_121, c_128])
                  · refine lv_bipush (v := 20) hx hb dX10_comment_131 (by decide) ?_
                    refine lv_goto (tgt := 138) hx hb dX10_comment_133 (by decide) ?_
                    exact J_138 20 (by simp [zr_cm, c_6, c_44, eq_true c_62, eq_true c_69, eq_true c_76, c_94, c_104, c_121, eq_true c_128])
              · exact absurd c_104 c_94
            · refine lv_aload_n hx hb dX10_comment_97 rfl (lv_at hl 0 rfl) ?_
              refine za_cv (wc := zm_ws g h ad (zm_s M7 32 0)) (wr := []) C hP hD hS [0, 1, 2, 3, 4, 5, 6, 7, 8, 9, 10, 11, 12, 13, 14, 15, 16, 17] [] rfl rfl (by decide) (by decide) (za_runV C hP hD hS [0, 1, 2, 3, 4, 5, 6, 7, 8, 9, 10, 11, 12, 13, 14, 15, 16, 17] rfl (by decide) rfl (kX10_error l g E h ad (zm_s M7 32 0)  ) w_1010 mX10_error 0 rfl rfl rfl rfl hl.1 rfl (Nat.le_of_ble_eq_true rfl) dX10_comment_98 ⟨by decide, by decide⟩ ⟨by decide, by decide⟩) (fun M9 H locs hM9 hP hD hS => ?_)
              have hP : va_P g.1 vwCl (zm_ws g h ad M9) H := hP
              have hD : va_D A (zm_ws g h ad M9) := hD
              subst hM9
              subst hM7
              exact zm_rv hQ hx hb hr hlocks hK hP hD hS (by simp [zm_comment, zq_upd, c_6, c_44, eq_true c_62, eq_true c_69, eq_true c_76, eq_true c_94]) dX10_comment_101
    · refine lv_iload_n hx hb dX10_comment_47 rfl (lv_at hl 1 rfl) ?_
      refine lv_bipush (v := 47) hx hb dX10_comment_48 (by decide) ?_
      refine lv_icmp_ne (tgt := 59) hx hb dX10_comment_50 (by decide) (fun c_50 => ?_) (fun c_50 => ?_)
      · refine lv_iload_n hx hb dX10_comment_59 rfl (lv_at hl 1 rfl) ?_
        refine lv_bipush (v := 10) hx hb dX10_comment_60 (by decide) ?_
        refine lv_icmp_ne (tgt := 88) hx hb dX10_comment_62 (by decide) (fun c_62 => ?_) (fun c_62 => ?_)
        · refine lv_aload_n hx hb dX10_comment_88 rfl (lv_at hl 0 rfl) ?_
          refine lv_iconst (v := 0) hx hb dX10_comment_89 (by decide) ?_
          refine va_put (ci := 9) (fs := zm_fs ad M.1) (v := .int 0) hx hb hts iX10 tyX10 tyX10_ok nmX10 hown hK hP hD hS 0 rfl rfl 32 (by decide) (hts _ w_843) (fun _ h9 => h9) rfl (tyX10_ok 32 (by decide)) rfl rfl (Nat.le_of_ble_eq_true rfl) dX10_comment_90 (fun H locs hP hD hS => ?_)
          have hP := zm_pf32 (X := M) hP
          have hD := zm_df32 (X := M) hD
          refine lv_iload_n hx hb dX10_comment_93 rfl (lv_at hl 1 rfl) ?_
          refine lv_if_ne (tgt := 102) hx hb dX10_comment_94 (by decide) (fun c_94 => ?_) (fun c_94 => ?_)
          · refine lv_aload_n hx hb dX10_comment_102 rfl (lv_at hl 0 rfl) ?_
            refine lv_iload_n hx hb dX10_comment_103 rfl (lv_at hl 1 rfl) ?_
            refine lv_if_ne (tgt := 111) hx hb dX10_comment_104 (by decide) (fun c_104 => ?_) (fun c_104 => ?_)
            · refine lv_iload_n hx hb dX10_comment_111 rfl (lv_at hl 1 rfl) ?_
              refine za_cv (wc := zm_ws g h ad (zm_s M 32 0)) (wr := []) C hP hD hS [0, 1, 2, 3, 4, 5, 6, 7, 8, 9, 10, 11, 12, 13, 14, 15, 16, 17] [] rfl rfl (by decide) (by decide) (za_runV C hP hD hS [0, 1, 2, 3, 4, 5, 6, 7, 8, 9, 10, 11, 12, 13, 14, 15, 16, 17] rfl (by decide) rfl (kX10_quoted l g E h ad (zm_s M 32 0) x hT hs hk D hd9 hD9) w_1062 mX10_quoted 0 rfl rfl rfl rfl hl.1 rfl (Nat.le_of_ble_eq_true rfl) dX10_comment_112 ⟨by decide, by decide⟩ ⟨by decide, by decide⟩) (fun M10 H locs hM10 hP hD hS => ?_)
              have hP : va_P g.1 vwCl (zm_ws g h ad M10) H := hP
              have hD : va_D A (zm_ws g h ad M10) := hD
              refine lv_aload_n hx hb dX10_comment_115 rfl (lv_at hl 0 rfl) ?_
              refine va_get (ci := 9) (v := .int (M10.1 21)) hx hb hts iX10 hown hK hP 0 rfl rfl 21 (by decide) (hts _ w_832) (fun _ h9 => h9) rfl dX10_comment_116 ?_
              refine lv_bipush (v := 18) hx hb dX10_comment_119 (by decide) ?_
              refine lv_icmp_eq (tgt := 141) hx hb dX10_comment_121 (by decide) (fun c_121 => ?_) (fun c_121 => ?_)
              · subst hM10
                exact zm_rv hQ hx hb hr hlocks hK hP hD hS (by simp [zm_comment, zq_upd, c_6, eq_true c_44, c_50, c_62, c_94, c_104, eq_true c_121]) dX10_comment_141
              · refine lv_aload_n hx hb dX10_comment_124 rfl (lv_at hl 0 rfl) ?_
                have J_138 : ∀ v9 : Int32, v9 = (zr_cm x) → W p l e (za_R 6 0 0) s m args below meth co H locs 0 0 Q (F0 m 138 ls (.int v9 :: [.ref h])) := by
                  intro v_138 hv_138
                  refine va_put (ci := 9) (fs := zm_fs ad M10.1) (v := .int v_138) hx hb hts iX10 tyX10 tyX10_ok nmX10 hown hK hP hD hS 0 rfl rfl 21 (by decide) (hts _ w_832) (fun _ h9 => h9) rfl (tyX10_ok 21 (by decide)) rfl rfl (Nat.le_of_ble_eq_true rfl) dX10_comment_138 (fun H locs hP hD hS => ?_)
                  have hP := zm_pf21 (X := M10) hP
                  have hD := zm_df21 (X := M10) hD
                  subst hv_138
                  subst hM10
                  exact zm_rv hQ hx hb hr hlocks hK hP hD hS (by simp [zm_comment, zq_upd, c_6, eq_true c_44, c_50, c_62, c_94, c_104, c_121]) dX10_comment_141
                refine lv_iload_n hx hb dX10_comment_125 rfl (lv_at hl 1 rfl) ?_
                refine lv_bipush (v := 42) hx hb dX10_comment_126 (by decide) ?_
                refine lv_icmp_ne (tgt := 136) hx hb dX10_comment_128 (by decide) (fun c_128 => ?_) (fun c_128 => ?_)
                · refine lv_bipush (v := 19) hx hb dX10_comment_136 (by decide) ?_
                  exact J_138 19 (by simp [zr_cm, c_6, eq_true c_44, c_50, c_62, c_94, c_104, c_121, c_128])
                · refine lv_bipush (v := 20) hx hb dX10_comment_131 (by decide) ?_
                  refine lv_goto (tgt := 138) hx hb dX10_comment_133 (by decide) ?_
                  exact J_138 20 (by simp [zr_cm, c_6, eq_true c_44, c_50, c_62, c_94, c_104, c_121, eq_true c_128])
            · exact absurd c_104 c_94
          · refine lv_aload_n hx hb dX10_comment_97 rfl (lv_at hl 0 rfl) ?_
            refine za_cv (wc := zm_ws g h ad (zm_s M 32 0)) (wr := []) C hP hD hS [0, 1, 2, 3, 4, 5, 6, 7, 8, 9, 10, 11, 12, 13, 14, 15, 16, 17] [] rfl rfl (by decide) (by decide) (za_runV C hP hD hS [0, 1, 2, 3, 4, 5, 6, 7, 8, 9, 10, 11, 12, 13, 14, 15, 16, 17] rfl (by decide) rfl (kX10_error l g E h ad (zm_s M 32 0)  ) w_1010 mX10_error 0 rfl rfl rfl rfl hl.1 rfl (Nat.le_of_ble_eq_true rfl) dX10_comment_98 ⟨by decide, by decide⟩ ⟨by decide, by decide⟩) (fun M11 H locs hM11 hP hD hS => ?_)
            have hP : va_P g.1 vwCl (zm_ws g h ad M11) H := hP
            have hD : va_D A (zm_ws g h ad M11) := hD
            subst hM11
            exact zm_rv hQ hx hb hr hlocks hK hP hD hS (by simp [zm_comment, zq_upd, c_6, eq_true c_44, c_50, c_62, eq_true c_94]) dX10_comment_101
        · refine lv_aload_n hx hb dX10_comment_65 rfl (lv_at hl 0 rfl) ?_
          refine va_get (ci := 9) (v := .int (M.1 33)) hx hb hts iX10 hown hK hP 0 rfl rfl 33 (by decide) (hts _ w_844) (fun _ h9 => h9) rfl dX10_comment_66 ?_
          refine lv_if_ne (tgt := 88) hx hb dX10_comment_69 (by decide) (fun c_69 => ?_) (fun c_69 => ?_)
          · refine lv_aload_n hx hb dX10_comment_88 rfl (lv_at hl 0 rfl) ?_
            refine lv_iconst (v := 0) hx hb dX10_comment_89 (by decide) ?_
            refine va_put (ci := 9) (fs := zm_fs ad M.1) (v := .int 0) hx hb hts iX10 tyX10 tyX10_ok nmX10 hown hK hP hD hS 0 rfl rfl 32 (by decide) (hts _ w_843) (fun _ h9 => h9) rfl (tyX10_ok 32 (by decide)) rfl rfl (Nat.le_of_ble_eq_true rfl) dX10_comment_90 (fun H locs hP hD hS => ?_)
            have hP := zm_pf32 (X := M) hP
            have hD := zm_df32 (X := M) hD
            refine lv_iload_n hx hb dX10_comment_93 rfl (lv_at hl 1 rfl) ?_
            refine lv_if_ne (tgt := 102) hx hb dX10_comment_94 (by decide) (fun c_94 => ?_) (fun c_94 => ?_)
            · refine lv_aload_n hx hb dX10_comment_102 rfl (lv_at hl 0 rfl) ?_
              refine lv_iload_n hx hb dX10_comment_103 rfl (lv_at hl 1 rfl) ?_
              refine lv_if_ne (tgt := 111) hx hb dX10_comment_104 (by decide) (fun c_104 => ?_) (fun c_104 => ?_)
              · refine lv_iload_n hx hb dX10_comment_111 rfl (lv_at hl 1 rfl) ?_
                refine za_cv (wc := zm_ws g h ad (zm_s M 32 0)) (wr := []) C hP hD hS [0, 1, 2, 3, 4, 5, 6, 7, 8, 9, 10, 11, 12, 13, 14, 15, 16, 17] [] rfl rfl (by decide) (by decide) (za_runV C hP hD hS [0, 1, 2, 3, 4, 5, 6, 7, 8, 9, 10, 11, 12, 13, 14, 15, 16, 17] rfl (by decide) rfl (kX10_quoted l g E h ad (zm_s M 32 0) x hT hs hk D hd9 hD9) w_1062 mX10_quoted 0 rfl rfl rfl rfl hl.1 rfl (Nat.le_of_ble_eq_true rfl) dX10_comment_112 ⟨by decide, by decide⟩ ⟨by decide, by decide⟩) (fun M12 H locs hM12 hP hD hS => ?_)
                have hP : va_P g.1 vwCl (zm_ws g h ad M12) H := hP
                have hD : va_D A (zm_ws g h ad M12) := hD
                refine lv_aload_n hx hb dX10_comment_115 rfl (lv_at hl 0 rfl) ?_
                refine va_get (ci := 9) (v := .int (M12.1 21)) hx hb hts iX10 hown hK hP 0 rfl rfl 21 (by decide) (hts _ w_832) (fun _ h9 => h9) rfl dX10_comment_116 ?_
                refine lv_bipush (v := 18) hx hb dX10_comment_119 (by decide) ?_
                refine lv_icmp_eq (tgt := 141) hx hb dX10_comment_121 (by decide) (fun c_121 => ?_) (fun c_121 => ?_)
                · subst hM12
                  exact zm_rv hQ hx hb hr hlocks hK hP hD hS (by simp [zm_comment, zq_upd, c_6, eq_true c_44, c_50, eq_true c_62, c_69, c_94, c_104, eq_true c_121]) dX10_comment_141
                · refine lv_aload_n hx hb dX10_comment_124 rfl (lv_at hl 0 rfl) ?_
                  have J_138 : ∀ v9 : Int32, v9 = (zr_cm x) → W p l e (za_R 6 0 0) s m args below meth co H locs 0 0 Q (F0 m 138 ls (.int v9 :: [.ref h])) := by
                    intro v_138 hv_138
                    refine va_put (ci := 9) (fs := zm_fs ad M12.1) (v := .int v_138) hx hb hts iX10 tyX10 tyX10_ok nmX10 hown hK hP hD hS 0 rfl rfl 21 (by decide) (hts _ w_832) (fun _ h9 => h9) rfl (tyX10_ok 21 (by decide)) rfl rfl (Nat.le_of_ble_eq_true rfl) dX10_comment_138 (fun H locs hP hD hS => ?_)
                    have hP := zm_pf21 (X := M12) hP
                    have hD := zm_df21 (X := M12) hD
                    subst hv_138
                    subst hM12
                    exact zm_rv hQ hx hb hr hlocks hK hP hD hS (by simp [zm_comment, zq_upd, c_6, eq_true c_44, c_50, eq_true c_62, c_69, c_94, c_104, c_121]) dX10_comment_141
                  refine lv_iload_n hx hb dX10_comment_125 rfl (lv_at hl 1 rfl) ?_
                  refine lv_bipush (v := 42) hx hb dX10_comment_126 (by decide) ?_
                  refine lv_icmp_ne (tgt := 136) hx hb dX10_comment_128 (by decide) (fun c_128 => ?_) (fun c_128 => ?_)
                  · refine lv_bipush (v := 19) hx hb dX10_comment_136 (by decide) ?_
                    exact J_138 19 (by simp [zr_cm, c_6, eq_true c_44, c_50, eq_true c_62, c_69, c_94, c_104, c_121, c_128])
                  · refine lv_bipush (v := 20) hx hb dX10_comment_131 (by decide) ?_
                    refine lv_goto (tgt := 138) hx hb dX10_comment_133 (by decide) ?_
                    exact J_138 20 (by simp [zr_cm, c_6, eq_true c_44, c_50, eq_true c_62, c_69, c_94, c_104, c_121, eq_true c_128])
              · exact absurd c_104 c_94
            · refine lv_aload_n hx hb dX10_comment_97 rfl (lv_at hl 0 rfl) ?_
              refine za_cv (wc := zm_ws g h ad (zm_s M 32 0)) (wr := []) C hP hD hS [0, 1, 2, 3, 4, 5, 6, 7, 8, 9, 10, 11, 12, 13, 14, 15, 16, 17] [] rfl rfl (by decide) (by decide) (za_runV C hP hD hS [0, 1, 2, 3, 4, 5, 6, 7, 8, 9, 10, 11, 12, 13, 14, 15, 16, 17] rfl (by decide) rfl (kX10_error l g E h ad (zm_s M 32 0)  ) w_1010 mX10_error 0 rfl rfl rfl rfl hl.1 rfl (Nat.le_of_ble_eq_true rfl) dX10_comment_98 ⟨by decide, by decide⟩ ⟨by decide, by decide⟩) (fun M13 H locs hM13 hP hD hS => ?_)
              have hP : va_P g.1 vwCl (zm_ws g h ad M13) H := hP
              have hD : va_D A (zm_ws g h ad M13) := hD
              subst hM13
              exact zm_rv hQ hx hb hr hlocks hK hP hD hS (by simp [zm_comment, zq_upd, c_6, eq_true c_44, c_50, eq_true c_62, c_69, eq_true c_94]) dX10_comment_101
          · refine lv_aload_n hx hb dX10_comment_72 rfl (lv_at hl 0 rfl) ?_
            refine va_get (ci := 9) (v := .int (M.1 31)) hx hb hts iX10 hown hK hP 0 rfl rfl 31 (by decide) (hts _ w_842) (fun _ h9 => h9) rfl dX10_comment_73 ?_
            refine lv_if_ne (tgt := 88) hx hb dX10_comment_76 (by decide) (fun c_76 => ?_) (fun c_76 => ?_)
            · refine lv_aload_n hx hb dX10_comment_88 rfl (lv_at hl 0 rfl) ?_
              refine lv_iconst (v := 0) hx hb dX10_comment_89 (by decide) ?_
              refine va_put (ci := 9) (fs := zm_fs ad M.1) (v := .int 0) hx hb hts iX10 tyX10 tyX10_ok nmX10 hown hK hP hD hS 0 rfl rfl 32 (by decide) (hts _ w_843) (fun _ h9 => h9) rfl (tyX10_ok 32 (by decide)) rfl rfl (Nat.le_of_ble_eq_true rfl) dX10_comment_90 (fun H locs hP hD hS => ?_)
              have hP := zm_pf32 (X := M) hP
              have hD := zm_df32 (X := M) hD
              refine lv_iload_n hx hb dX10_comment_93 rfl (lv_at hl 1 rfl) ?_
              refine lv_if_ne (tgt := 102) hx hb dX10_comment_94 (by decide) (fun c_94 => ?_) (fun c_94 => ?_)
              · refine lv_aload_n hx hb dX10_comment_102 rfl (lv_at hl 0 rfl) ?_
                refine lv_iload_n hx hb dX10_comment_103 rfl (lv_at hl 1 rfl) ?_
                refine lv_if_ne (tgt := 111) hx hb dX10_comment_104 (by decide) (fun c_104 => ?_) (fun c_104 => ?_)
                · refine lv_iload_n hx hb dX10_comment_111 rfl (lv_at hl 1 rfl) ?_
                  refine za_cv (wc := zm_ws g h ad (zm_s M 32 0)) (wr := []) C hP hD hS [0, 1, 2, 3, 4, 5, 6, 7, 8, 9, 10, 11, 12, 13, 14, 15, 16, 17] [] rfl rfl (by decide) (by decide) (za_runV C hP hD hS [0, 1, 2, 3, 4, 5, 6, 7, 8, 9, 10, 11, 12, 13, 14, 15, 16, 17] rfl (by decide) rfl (kX10_quoted l g E h ad (zm_s M 32 0) x hT hs hk D hd9 hD9) w_1062 mX10_quoted 0 rfl rfl rfl rfl hl.1 rfl (Nat.le_of_ble_eq_true rfl) dX10_comment_112 ⟨by decide, by decide⟩ ⟨by decide, by decide⟩) (fun M14 H locs hM14 hP hD hS => ?_)
                  have hP : va_P g.1 vwCl (zm_ws g h ad M14) H := hP
                  have hD : va_D A (zm_ws g h ad M14) := hD
                  refine lv_aload_n hx hb dX10_comment_115 rfl (lv_at hl 0 rfl) ?_
                  refine va_get (ci := 9) (v := .int (M14.1 21)) hx hb hts iX10 hown hK hP 0 rfl rfl 21 (by decide) (hts _ w_832) (fun _ h9 => h9) rfl dX10_comment_116 ?_
                  refine lv_bipush (v := 18) hx hb dX10_comment_119 (by decide) ?_
                  refine lv_icmp_eq (tgt := 141) hx hb dX10_comment_121 (by decide) (fun c_121 => ?_) (fun c_121 => ?_)
                  · subst hM14
                    exact zm_rv hQ hx hb hr hlocks hK hP hD hS (by simp [zm_comment, zq_upd, c_6, eq_true c_44, c_50, eq_true c_62, eq_true c_69, c_76, c_94, c_104, eq_true c_121]) dX10_comment_141
                  · refine lv_aload_n hx hb dX10_comment_124 rfl (lv_at hl 0 rfl) ?_
                    have J_138 : ∀ v9 : Int32, v9 = (zr_cm x) → W p l e (za_R 6 0 0) s m args below meth co H locs 0 0 Q (F0 m 138 ls (.int v9 :: [.ref h])) := by
                      intro v_138 hv_138
                      refine va_put (ci := 9) (fs := zm_fs ad M14.1) (v := .int v_138) hx hb hts iX10 tyX10 tyX10_ok nmX10 hown hK hP hD hS 0 rfl rfl 21 (by decide) (hts _ w_832) (fun _ h9 => h9) rfl (tyX10_ok 21 (by decide)) rfl rfl (Nat.le_of_ble_eq_true rfl) dX10_comment_138 (fun H locs hP hD hS => ?_)
                      have hP := zm_pf21 (X := M14) hP
                      have hD := zm_df21 (X := M14) hD
                      subst hv_138
                      subst hM14
                      exact zm_rv hQ hx hb hr hlocks hK hP hD hS (by simp [zm_comment, zq_upd, c_6, eq_true c_44, c_50, eq_true c_62, eq_true c_69, c_76, c_94, c_104, c_121]) dX10_comment_141
                    refine lv_iload_n hx hb dX10_comment_125 rfl (lv_at hl 1 rfl) ?_
                    refine lv_bipush (v := 42) hx hb dX10_comment_126 (by decide) ?_
                    refine lv_icmp_ne (tgt := 136) hx hb dX10_comment_128 (by decide) (fun c_128 => ?_) (fun c_128 => ?_)
                    · refine lv_bipush (v := 19) hx hb dX10_comment_136 (by decide) ?_
                      exact J_138 19 (by simp [zr_cm, c_6, eq_true c_44, c_50, eq_true c_62, eq_true c_69, c_76, c_94, c_104, c_121, c_128])
                    · refine lv_bipush (v := 20) hx hb dX10_comment_131 (by decide) ?_
                      refine lv_goto (tgt := 138) hx hb dX10_comment_133 (by decide) ?_
                      exact J_138 20 (by simp [zr_cm, c_6, eq_true c_44, c_50, eq_true c_62, eq_true c_69, c_76, c_94, c_104, c_121, eq_true c_128])
                · exact absurd c_104 c_94
              · refine lv_aload_n hx hb dX10_comment_97 rfl (lv_at hl 0 rfl) ?_
                refine za_cv (wc := zm_ws g h ad (zm_s M 32 0)) (wr := []) C hP hD hS [0, 1, 2, 3, 4, 5, 6, 7, 8, 9, 10, 11, 12, 13, 14, 15, 16, 17] [] rfl rfl (by decide) (by decide) (za_runV C hP hD hS [0, 1, 2, 3, 4, 5, 6, 7, 8, 9, 10, 11, 12, 13, 14, 15, 16, 17] rfl (by decide) rfl (kX10_error l g E h ad (zm_s M 32 0)  ) w_1010 mX10_error 0 rfl rfl rfl rfl hl.1 rfl (Nat.le_of_ble_eq_true rfl) dX10_comment_98 ⟨by decide, by decide⟩ ⟨by decide, by decide⟩) (fun M15 H locs hM15 hP hD hS => ?_)
                have hP : va_P g.1 vwCl (zm_ws g h ad M15) H := hP
                have hD : va_D A (zm_ws g h ad M15) := hD
                subst hM15
                exact zm_rv hQ hx hb hr hlocks hK hP hD hS (by simp [zm_comment, zq_upd, c_6, eq_true c_44, c_50, eq_true c_62, eq_true c_69, c_76, eq_true c_94]) dX10_comment_101
            · refine lv_aload_n hx hb dX10_comment_79 rfl (lv_at hl 0 rfl) ?_
              refine lv_iconst (v := 1) hx hb dX10_comment_80 (by decide) ?_
              refine va_put (ci := 9) (fs := zm_fs ad M.1) (v := .int 1) hx hb hts iX10 tyX10 tyX10_ok nmX10 hown hK hP hD hS 0 rfl rfl 31 (by decide) (hts _ w_842) (fun _ h9 => h9) rfl (tyX10_ok 31 (by decide)) rfl rfl (Nat.le_of_ble_eq_true rfl) dX10_comment_81 (fun H locs hP hD hS => ?_)
              have hP := zm_pf31 (X := M) hP
              have hD := zm_df31 (X := M) hD
              refine lv_aload_n hx hb dX10_comment_84 rfl (lv_at hl 0 rfl) ?_
              refine za_cv (wc := zm_ws g h ad (zm_s M 31 1)) (wr := []) C hP hD hS [0, 1, 2, 3, 4, 5, 6, 7, 8, 9, 10, 11, 12, 13, 14, 15, 16, 17] [] rfl rfl (by decide) (by decide) (za_runV C hP hD hS [0, 1, 2, 3, 4, 5, 6, 7, 8, 9, 10, 11, 12, 13, 14, 15, 16, 17] rfl (by decide) rfl (kX10_semicolon l g E h ad (zm_s M 31 1)  hT) w_981 mX10_semicolon 0 rfl rfl rfl rfl hl.1 rfl (Nat.le_of_ble_eq_true rfl) dX10_comment_85 ⟨by decide, by decide⟩ ⟨by decide, by decide⟩) (fun M16 H locs hM16 hP hD hS => ?_)
              have hP : va_P g.1 vwCl (zm_ws g h ad M16) H := hP
              have hD : va_D A (zm_ws g h ad M16) := hD
              refine lv_aload_n hx hb dX10_comment_88 rfl (lv_at hl 0 rfl) ?_
              refine lv_iconst (v := 0) hx hb dX10_comment_89 (by decide) ?_
              refine va_put (ci := 9) (fs := zm_fs ad M16.1) (v := .int 0) hx hb hts iX10 tyX10 tyX10_ok nmX10 hown hK hP hD hS 0 rfl rfl 32 (by decide) (hts _ w_843) (fun _ h9 => h9) rfl (tyX10_ok 32 (by decide)) rfl rfl (Nat.le_of_ble_eq_true rfl) dX10_comment_90 (fun H locs hP hD hS => ?_)
              have hP := zm_pf32 (X := M16) hP
              have hD := zm_df32 (X := M16) hD
              refine lv_iload_n hx hb dX10_comment_93 rfl (lv_at hl 1 rfl) ?_
              refine lv_if_ne (tgt := 102) hx hb dX10_comment_94 (by decide) (fun c_94 => ?_) (fun c_94 => ?_)
              · refine lv_aload_n hx hb dX10_comment_102 rfl (lv_at hl 0 rfl) ?_
                refine lv_iload_n hx hb dX10_comment_103 rfl (lv_at hl 1 rfl) ?_
                refine lv_if_ne (tgt := 111) hx hb dX10_comment_104 (by decide) (fun c_104 => ?_) (fun c_104 => ?_)
                · refine lv_iload_n hx hb dX10_comment_111 rfl (lv_at hl 1 rfl) ?_
                  refine za_cv (wc := zm_ws g h ad (zm_s M16 32 0)) (wr := []) C hP hD hS [0, 1, 2, 3, 4, 5, 6, 7, 8, 9, 10, 11, 12, 13, 14, 15, 16, 17] [] rfl rfl (by decide) (by decide) (za_runV C hP hD hS [0, 1, 2, 3, 4, 5, 6, 7, 8, 9, 10, 11, 12, 13, 14, 15, 16, 17] rfl (by decide) rfl (kX10_quoted l g E h ad (zm_s M16 32 0) x (by rw [hM16]; exact zm_T_semicolon (M := zm_s M 31 1) hT) (by rw [hM16]; exact zm_semi_23 hs) (by rw [hM16]; exact zm_semi_K hk) D (by rw [hM16]; intro h9; rw [zm_semi_36] at h9 ⊢; exact hd9 h9) hD9) w_1062 mX10_quoted 0 rfl rfl rfl rfl hl.1 rfl (Nat.le_of_ble_eq_true rfl) dX10_comment_112 ⟨by decide, by decide⟩ ⟨by decide, by decide⟩) (fun M17 H locs hM17 hP hD hS => ?_)
                  have hP : va_P g.1 vwCl (zm_ws g h ad M17) H := hP
                  have hD : va_D A (zm_ws g h ad M17) := hD
                  refine lv_aload_n hx hb dX10_comment_115 rfl (lv_at hl 0 rfl) ?_
                  refine va_get (ci := 9) (v := .int (M17.1 21)) hx hb hts iX10 hown hK hP 0 rfl rfl 21 (by decide) (hts _ w_832) (fun _ h9 => h9) rfl dX10_comment_116 ?_
                  refine lv_bipush (v := 18) hx hb dX10_comment_119 (by decide) ?_
                  refine lv_icmp_eq (tgt := 141) hx hb dX10_comment_121 (by decide) (fun c_121 => ?_) (fun c_121 => ?_)
                  · subst hM17
                    subst hM16
                    exact zm_rv hQ hx hb hr hlocks hK hP hD hS (by simp [zm_comment, zq_upd, c_6, eq_true c_44, c_50, eq_true c_62, eq_true c_69, eq_true c_76, c_94, c_104, eq_true c_121]) dX10_comment_141
                  · refine lv_aload_n hx hb dX10_comment_124 rfl (lv_at hl 0 rfl) ?_
                    have J_138 : ∀ v9 : Int32, v9 = (zr_cm x) → W p l e (za_R 6 0 0) s m args below meth co H locs 0 0 Q (F0 m 138 ls (.int v9 :: [.ref h])) := by
                      intro v_138 hv_138
                      refine va_put (ci := 9) (fs := zm_fs ad M17.1) (v := .int v_138) hx hb hts iX10 tyX10 tyX10_ok nmX10 hown hK hP hD hS 0 rfl rfl 21 (by decide) (hts _ w_832) (fun _ h9 => h9) rfl (tyX10_ok 21 (by decide)) rfl rfl (Nat.le_of_ble_eq_true rfl) dX10_comment_138 (fun H locs hP hD hS => ?_)
                      have hP := zm_pf21 (X := M17) hP
                      have hD := zm_df21 (X := M17) hD
                      subst hv_138
                      subst hM17
                      subst hM16
                      exact zm_rv hQ hx hb hr hlocks hK hP hD hS (by simp [zm_comment, zq_upd, c_6, eq_true c_44, c_50, eq_true c_62, eq_true c_69, eq_true c_76, c_94, c_104, c_121]) dX10_comment_141
                    refine lv_iload_n hx hb dX10_comment_125 rfl (lv_at hl 1 rfl) ?_
                    refine lv_bipush (v := 42) hx hb dX10_comment_126 (by decide) ?_
                    refine lv_icmp_ne (tgt := 136) hx hb dX10_comment_128 (by decide) (fun c_128 => ?_) (fun c_128 => ?_)
                    · refine lv_bipush (v := 19) hx hb dX10_comment_136 (by decide) ?_
                      exact J_138 19 (by simp [zr_cm, c_6, eq_true c_44, c_50, eq_true c_62, eq_true c_69, eq_true c_76, c_94, c_104, c_121, c_128])
                    · refine lv_bipush (v := 20) hx hb dX10_comment_131 (by decide) ?_
                      refine lv_goto (tgt := 138) hx hb dX10_comment_133 (by decide) ?_
                      exact J_138 20 (by simp [zr_cm, c_6, eq_true c_44, c_50, eq_true c_62, eq_true c_69, eq_true c_76, c_94, c_104, c_121, eq_true c_128])
                · exact absurd c_104 c_94
              · refine lv_aload_n hx hb dX10_comment_97 rfl (lv_at hl 0 rfl) ?_
                refine za_cv (wc := zm_ws g h ad (zm_s M16 32 0)) (wr := []) C hP hD hS [0, 1, 2, 3, 4, 5, 6, 7, 8, 9, 10, 11, 12, 13, 14, 15, 16, 17] [] rfl rfl (by decide) (by decide) (za_runV C hP hD hS [0, 1, 2, 3, 4, 5, 6, 7, 8, 9, 10, 11, 12, 13, 14, 15, 16, 17] rfl (by decide) rfl (kX10_error l g E h ad (zm_s M16 32 0)  ) w_1010 mX10_error 0 rfl rfl rfl rfl hl.1 rfl (Nat.le_of_ble_eq_true rfl) dX10_comment_98 ⟨by decide, by decide⟩ ⟨by decide, by decide⟩) (fun M18 H locs hM18 hP hD hS => ?_)
                have hP : va_P g.1 vwCl (zm_ws g h ad M18) H := hP
                have hD : va_D A (zm_ws g h ad M18) := hD
                subst hM18
                subst hM16
                exact zm_rv hQ hx hb hr hlocks hK hP hD hS (by simp [zm_comment, zq_upd, c_6, eq_true c_44, c_50, eq_true c_62, eq_true c_69, eq_true c_76, eq_true c_94]) dX10_comment_101
      · refine lv_aload_n hx hb dX10_comment_53 rfl (lv_at hl 0 rfl) ?_
        refine lv_iconst (v := 0) hx hb dX10_comment_54 (by decide) ?_
        refine va_put (ci := 9) (fs := zm_fs ad M.1) (v := .int 0) hx hb hts iX10 tyX10 tyX10_ok nmX10 hown hK hP hD hS 0 rfl rfl 21 (by decide) (hts _ w_832) (fun _ h9 => h9) rfl (tyX10_ok 21 (by decide)) rfl rfl (Nat.le_of_ble_eq_true rfl) dX10_comment_55 (fun H locs hP hD hS => ?_)
        have hP := zm_pf21 (X := M) hP
        have hD := zm_df21 (X := M) hD
        exact zm_rv hQ hx hb hr hlocks hK hP hD hS (by simp [zm_comment, zq_upd, c_6, eq_true c_44, eq_true c_50]) dX10_comment_58
  · refine lv_iload_n hx hb dX10_comment_9 rfl (lv_at hl 1 rfl) ?_
    refine lv_bipush (v := 10) hx hb dX10_comment_10 (by decide) ?_
    refine lv_icmp_eq (tgt := 20) hx hb dX10_comment_12 (by decide) (fun c_12 => ?_) (fun c_12 => ?_)
    · refine lv_aload_n hx hb dX10_comment_20 rfl (lv_at hl 0 rfl) ?_
      refine va_get (ci := 9) (v := .int (M.1 33)) hx hb hts iX10 hown hK hP 0 rfl rfl 33 (by decide) (hts _ w_844) (fun _ h9 => h9) rfl dX10_comment_21 ?_
      refine lv_if_ne (tgt := 38) hx hb dX10_comment_24 (by decide) (fun c_24 => ?_) (fun c_24 => ?_)
      · refine lv_aload_n hx hb dX10_comment_38 rfl (lv_at hl 0 rfl) ?_
        refine va_get (ci := 9) (v := .int (M.1 21)) hx hb hts iX10 hown hK hP 0 rfl rfl 21 (by decide) (hts _ w_832) (fun _ h9 => h9) rfl dX10_comment_39 ?_
        refine lv_bipush (v := 20) hx hb dX10_comment_42 (by decide) ?_
        refine lv_icmp_ne (tgt := 59) hx hb dX10_comment_44 (by decide) (fun c_44 => ?_) (fun c_44 => ?_)
        · refine lv_iload_n hx hb dX10_comment_59 rfl (lv_at hl 1 rfl) ?_
          refine lv_bipush (v := 10) hx hb dX10_comment_60 (by decide) ?_
          refine lv_icmp_ne (tgt := 88) hx hb dX10_comment_62 (by decide) (fun c_62 => ?_) (fun c_62 => ?_)
          · exact absurd c_12 c_62
          · refine lv_aload_n hx hb dX10_comment_65 rfl (lv_at hl 0 rfl) ?_
            refine va_get (ci := 9) (v := .int (M.1 33)) hx hb hts iX10 hown hK hP 0 rfl rfl 33 (by decide) (hts _ w_844) (fun _ h9 => h9) rfl dX10_comment_66 ?_
            refine lv_if_ne (tgt := 88) hx hb dX10_comment_69 (by decide) (fun c_69 => ?_) (fun c_69 => ?_)
            · refine lv_aload_n hx hb dX10_comment_88 rfl (lv_at hl 0 rfl) ?_
              refine lv_iconst (v := 0) hx hb dX10_comment_89 (by decide) ?_
              refine va_put (ci := 9) (fs := zm_fs ad M.1) (v := .int 0) hx hb hts iX10 tyX10 tyX10_ok nmX10 hown hK hP hD hS 0 rfl rfl 32 (by decide) (hts _ w_843) (fun _ h9 => h9) rfl (tyX10_ok 32 (by decide)) rfl rfl (Nat.le_of_ble_eq_true rfl) dX10_comment_90 (fun H locs hP hD hS => ?_)
              have hP := zm_pf32 (X := M) hP
              have hD := zm_df32 (X := M) hD
              refine lv_iload_n hx hb dX10_comment_93 rfl (lv_at hl 1 rfl) ?_
              refine lv_if_ne (tgt := 102) hx hb dX10_comment_94 (by decide) (fun c_94 => ?_) (fun c_94 => ?_)
              · refine lv_aload_n hx hb dX10_comment_102 rfl (lv_at hl 0 rfl) ?_
                refine lv_iload_n hx hb dX10_comment_103 rfl (lv_at hl 1 rfl) ?_
                refine lv_if_ne (tgt := 111) hx hb dX10_comment_104 (by decide) (fun c_104 => ?_) (fun c_104 => ?_)
                · refine lv_iload_n hx hb dX10_comment_111 rfl (lv_at hl 1 rfl) ?_
                  refine za_cv (wc := zm_ws g h ad (zm_s M 32 0)) (wr := []) C hP hD hS [0, 1, 2, 3, 4, 5, 6, 7, 8, 9, 10, 11, 12, 13, 14, 15, 16, 17] [] rfl rfl (by decide) (by decide) (za_runV C hP hD hS [0, 1, 2, 3, 4, 5, 6, 7, 8, 9, 10, 11, 12, 13, 14, 15, 16, 17] rfl (by decide) rfl (kX10_quoted l g E h ad (zm_s M 32 0) x hT hs hk D hd9 hD9) w_1062 mX10_quoted 0 rfl rfl rfl rfl hl.1 rfl (Nat.le_of_ble_eq_true rfl) dX10_comment_112 ⟨by decide, by decide⟩ ⟨by decide, by decide⟩) (fun M19 H locs hM19 hP hD hS => ?_)
                  have hP : va_P g.1 vwCl (zm_ws g h ad M19) H := hP
                  have hD : va_D A (zm_ws g h ad M19) := hD
                  refine lv_aload_n hx hb dX10_comment_115 rfl (lv_at hl 0 rfl) ?_
                  refine va_get (ci := 9) (v := .int (M19.1 21)) hx hb hts iX10 hown hK hP 0 rfl rfl 21 (by decide) (hts _ w_832) (fun _ h9 => h9) rfl dX10_comment_116 ?_
                  refine lv_bipush (v := 18) hx hb dX10_comment_119 (by decide) ?_
                  refine lv_icmp_eq (tgt := 141) hx hb dX10_comment_121 (by decide) (fun c_121 => ?_) (fun c_121 => ?_)
                  · subst hM19
                    exact zm_rv hQ hx hb hr hlocks hK hP hD hS (by simp [zm_comment, zq_upd, eq_true c_6, eq_true c_12, c_24, c_44, eq_true c_62, c_69, c_94, c_104, eq_true c_121]) dX10_comment_141
                  · refine lv_aload_n hx hb dX10_comment_124 rfl (lv_at hl 0 rfl) ?_
                    have J_138 : ∀ v9 : Int32, v9 = (zr_cm x) → W p l e (za_R 6 0 0) s m args below meth co H locs 0 0 Q (F0 m 138 ls (.int v9 :: [.ref h])) := by
                      intro v_138 hv_138
                      refine va_put (ci := 9) (fs := zm_fs ad M19.1) (v := .int v_138) hx hb hts iX10 tyX10 tyX10_ok nmX10 hown hK hP hD hS 0 rfl rfl 21 (by decide) (hts _ w_832) (fun _ h9 => h9) rfl (tyX10_ok 21 (by decide)) rfl rfl (Nat.le_of_ble_eq_true rfl) dX10_comment_138 (fun H locs hP hD hS => ?_)
                      have hP := zm_pf21 (X := M19) hP
                      have hD := zm_df21 (X := M19) hD
                      subst hv_138
                      subst hM19
                      exact zm_rv hQ hx hb hr hlocks hK hP hD hS (by simp [zm_comment, zq_upd, eq_true c_6, eq_true c_12, c_24, c_44, eq_true c_62, c_69, c_94, c_104, c_121]) dX10_comment_141
                    refine lv_iload_n hx hb dX10_comment_125 rfl (lv_at hl 1 rfl) ?_
                    refine lv_bipush (v := 42) hx hb dX10_comment_126 (by decide) ?_
                    refine lv_icmp_ne (tgt := 136) hx hb dX10_comment_128 (by decide) (fun c_128 => ?_) (fun c_128 => ?_)
                    · refine lv_bipush (v := 19) hx hb dX10_comment_136 (by decide) ?_
                      exact J_138 19 (by simp [zr_cm, eq_true c_6, eq_true c_12, c_24, c_44, eq_true c_62, c_69, c_94, c_104, c_121, c_128])
                    · refine lv_bipush (v := 20) hx hb dX10_comment_131 (by decide) ?_
                      refine lv_goto (tgt := 138) hx hb dX10_comment_133 (by decide) ?_
                      exact J_138 20 (by simp [zr_cm, eq_true c_6, eq_true c_12, c_24, c_44, eq_true c_62, c_69, c_94, c_104, c_121, eq_true c_128])
                · exact absurd c_104 c_94
              · refine lv_aload_n hx hb dX10_comment_97 rfl (lv_at hl 0 rfl) ?_
                refine za_cv (wc := zm_ws g h ad (zm_s M 32 0)) (wr := []) C hP hD hS [0, 1, 2, 3, 4, 5, 6, 7, 8, 9, 10, 11, 12, 13, 14, 15, 16, 17] [] rfl rfl (by decide) (by decide) (za_runV C hP hD hS [0, 1, 2, 3, 4, 5, 6, 7, 8, 9, 10, 11, 12, 13, 14, 15, 16, 17] rfl (by decide) rfl (kX10_error l g E h ad (zm_s M 32 0)  ) w_1010 mX10_error 0 rfl rfl rfl rfl hl.1 rfl (Nat.le_of_ble_eq_true rfl) dX10_comment_98 ⟨by decide, by decide⟩ ⟨by decide, by decide⟩) (fun M20 H locs hM20 hP hD hS => ?_)
                have hP : va_P g.1 vwCl (zm_ws g h ad M20) H := hP
                have hD : va_D A (zm_ws g h ad M20) := hD
                subst hM20
                exact zm_rv hQ hx hb hr hlocks hK hP hD hS (by simp [zm_comment, zq_upd, eq_true c_6, eq_true c_12, c_24, c_44, eq_true c_62, c_69, eq_true c_94]) dX10_comment_101
            · exact absurd c_69 c_24
        · refine lv_iload_n hx hb dX10_comment_47 rfl (lv_at hl 1 rfl) ?_
          refine lv_bipush (v := 47) hx hb dX10_comment_48 (by decide) ?_
          refine lv_icmp_ne (tgt := 59) hx hb dX10_comment_50 (by decide) (fun c_50 => ?_) (fun c_50 => ?_)
          · refine lv_iload_n hx hb dX10_comment_59 rfl (lv_at hl 1 rfl) ?_
            refine lv_bipush (v := 10) hx hb dX10_comment_60 (by decide) ?_
            refine lv_icmp_ne (tgt := 88) hx hb dX10_comment_62 (by decide) (fun c_62 => ?_) (fun c_62 => ?_)
            · exact absurd c_12 c_62
            · refine lv_aload_n hx hb dX10_comment_65 rfl (lv_at hl 0 rfl) ?_
              refine va_get (ci := 9) (v := .int (M.1 33)) hx hb hts iX10 hown hK hP 0 rfl rfl 33 (by decide) (hts _ w_844) (fun _ h9 => h9) rfl dX10_comment_66 ?_
              refine lv_if_ne (tgt := 88) hx hb dX10_comment_69 (by decide) (fun c_69 => ?_) (fun c_69 => ?_)
              · refine lv_aload_n hx hb dX10_comment_88 rfl (lv_at hl 0 rfl) ?_
                refine lv_iconst (v := 0) hx hb dX10_comment_89 (by decide) ?_
                refine va_put (ci := 9) (fs := zm_fs ad M.1) (v := .int 0) hx hb hts iX10 tyX10 tyX10_ok nmX10 hown hK hP hD hS 0 rfl rfl 32 (by decide) (hts _ w_843) (fun _ h9 => h9) rfl (tyX10_ok 32 (by decide)) rfl rfl (Nat.le_of_ble_eq_true rfl) dX10_comment_90 (fun H locs hP hD hS => ?_)
                have hP := zm_pf32 (X := M) hP
                have hD := zm_df32 (X := M) hD
                refine lv_iload_n hx hb dX10_comment_93 rfl (lv_at hl 1 rfl) ?_
                refine lv_if_ne (tgt := 102) hx hb dX10_comment_94 (by decide) (fun c_94 => ?_) (fun c_94 => ?_)
                · refine lv_aload_n hx hb dX10_comment_102 rfl (lv_at hl 0 rfl) ?_
                  refine lv_iload_n hx hb dX10_comment_103 rfl (lv_at hl 1 rfl) ?_
                  refine lv_if_ne (tgt := 111) hx hb dX10_comment_104 (by decide) (fun c_104 => ?_) (fun c_104 => ?_)
                  · refine lv_iload_n hx hb dX10_comment_111 rfl (lv_at hl 1 rfl) ?_
                    refine za_cv (wc := zm_ws g h ad (zm_s M 32 0)) (wr := []) C hP hD hS [0, 1, 2, 3, 4, 5, 6, 7, 8, 9, 10, 11, 12, 13, 14, 15, 16, 17] [] rfl rfl (by decide) (by decide) (za_runV C hP hD hS [0, 1, 2, 3, 4, 5, 6, 7, 8, 9, 10, 11, 12, 13, 14, 15, 16, 17] rfl (by decide) rfl (kX10_quoted l g E h ad (zm_s M 32 0) x hT hs hk D hd9 hD9) w_1062 mX10_quoted 0 rfl rfl rfl rfl hl.1 rfl (Nat.le_of_ble_eq_true rfl) dX10_comment_112 ⟨by decide, by decide⟩ ⟨by decide, by decide⟩) (fun M21 H locs hM21 hP hD hS => ?_)
                    have hP : va_P g.1 vwCl (zm_ws g h ad M21) H := hP
                    have hD : va_D A (zm_ws g h ad M21) := hD
                    refine lv_aload_n hx hb dX10_comment_115 rfl (lv_at hl 0 rfl) ?_
                    refine va_get (ci := 9) (v := .int (M21.1 21)) hx hb hts iX10 hown hK hP 0 rfl rfl 21 (by decide) (hts _ w_832) (fun _ h9 => h9) rfl dX10_comment_116 ?_
                    refine lv_bipush (v := 18) hx hb dX10_comment_119 (by decide) ?_
                    refine lv_icmp_eq (tgt := 141) hx hb dX10_comment_121 (by decide) (fun c_121 => ?_) (fun c_121 => ?_)
                    · subst hM21
                      exact zm_rv hQ hx hb hr hlocks hK hP hD hS (by simp [zm_comment, zq_upd, eq_true c_6, eq_true c_12, c_24, eq_true c_44, c_50, eq_true c_62, c_69, c_94, c_104, eq_true c_121]) dX10_comment_141
                    · refine lv_aload_n hx hb dX10_comment_124 rfl (lv_at hl 0 rfl) ?_
                      have J_138 : ∀ v9 : Int32, v9 = (zr_cm x) → W p l e (za_R 6 0 0) s m args below meth co H locs 0 0 Q (F0 m 138 ls (.int v9 :: [.ref h])) := by
                        intro v_138 hv_138
                        refine va_put (ci := 9) (fs := zm_fs ad M21.1) (v := .int v_138) hx hb hts iX10 tyX10 tyX10_ok nmX10 hown hK hP hD hS 0 rfl rfl 21 (by decide) (hts _ w_832) (fun _ h9 => h9) rfl (tyX10_ok 21 (by decide)) rfl rfl (Nat.le_of_ble_eq_true rfl) dX10_comment_138 (fun H locs hP hD hS => ?_)
                        have hP := zm_pf21 (X := M21) hP
                        have hD := zm_df21 (X := M21) hD
                        subst hv_138
                        subst hM21
                        exact zm_rv hQ hx hb hr hlocks hK hP hD hS (by simp [zm_comment, zq_upd, eq_true c_6, eq_true c_12, c_24, eq_true c_44, c_50, eq_true c_62, c_69, c_94, c_104, c_121]) dX10_comment_141
                      refine lv_iload_n hx hb dX10_comment_125 rfl (lv_at hl 1 rfl) ?_
                      refine lv_bipush (v := 42) hx hb dX10_comment_126 (by decide) ?_
                      refine lv_icmp_ne (tgt := 136) hx hb dX10_comment_128 (by decide) (fun c_128 => ?_) (fun c_128 => ?_)
                      · refine lv_bipush (v := 19) hx hb dX10_comment_136 (by decide) ?_
                        exact J_138 19 (by simp [zr_cm, eq_true c_6, eq_true c_12, c_24, eq_true c_44, c_50, eq_true c_62, c_69, c_94, c_104, c_121, c_128])
                      · refine lv_bipush (v := 20) hx hb dX10_comment_131 (by decide) ?_
                        refine lv_goto (tgt := 138) hx hb dX10_comment_133 (by decide) ?_
                        exact J_138 20 (by simp [zr_cm, eq_true c_6, eq_true c_12, c_24, eq_true c_44, c_50, eq_true c_62, c_69, c_94, c_104, c_121, eq_true c_128])
                  · exact absurd c_104 c_94
                · refine lv_aload_n hx hb dX10_comment_97 rfl (lv_at hl 0 rfl) ?_
                  refine za_cv (wc := zm_ws g h ad (zm_s M 32 0)) (wr := []) C hP hD hS [0, 1, 2, 3, 4, 5, 6, 7, 8, 9, 10, 11, 12, 13, 14, 15, 16, 17] [] rfl rfl (by decide) (by decide) (za_runV C hP hD hS [0, 1, 2, 3, 4, 5, 6, 7, 8, 9, 10, 11, 12, 13, 14, 15, 16, 17] rfl (by decide) rfl (kX10_error l g E h ad (zm_s M 32 0)  ) w_1010 mX10_error 0 rfl rfl rfl rfl hl.1 rfl (Nat.le_of_ble_eq_true rfl) dX10_comment_98 ⟨by decide, by decide⟩ ⟨by decide, by decide⟩) (fun M22 H locs hM22 hP hD hS => ?_)
                  have hP : va_P g.1 vwCl (zm_ws g h ad M22) H := hP
                  have hD : va_D A (zm_ws g h ad M22) := hD
                  subst hM22
                  exact zm_rv hQ hx hb hr hlocks hK hP hD hS (by simp [zm_comment, zq_upd, eq_true c_6, eq_true c_12, c_24, eq_true c_44, c_50, eq_true c_62, c_69, eq_true c_94]) dX10_comment_101
              · exact absurd c_69 c_24
          · refine lv_aload_n hx hb dX10_comment_53 rfl (lv_at hl 0 rfl) ?_
            refine lv_iconst (v := 0) hx hb dX10_comment_54 (by decide) ?_
            refine va_put (ci := 9) (fs := zm_fs ad M.1) (v := .int 0) hx hb hts iX10 tyX10 tyX10_ok nmX10 hown hK hP hD hS 0 rfl rfl 21 (by decide) (hts _ w_832) (fun _ h9 => h9) rfl (tyX10_ok 21 (by decide)) rfl rfl (Nat.le_of_ble_eq_true rfl) dX10_comment_55 (fun H locs hP hD hS => ?_)
            have hP := zm_pf21 (X := M) hP
            have hD := zm_df21 (X := M) hD
            exact zm_rv hQ hx hb hr hlocks hK hP hD hS (by simp [zm_comment, zq_upd, eq_true c_6, eq_true c_12, c_24, eq_true c_44, eq_true c_50]) dX10_comment_58
      · refine lv_aload_n hx hb dX10_comment_27 rfl (lv_at hl 0 rfl) ?_
        refine lv_iconst (v := 0) hx hb dX10_comment_28 (by decide) ?_
        refine va_put (ci := 9) (fs := zm_fs ad M.1) (v := .int 0) hx hb hts iX10 tyX10 tyX10_ok nmX10 hown hK hP hD hS 0 rfl rfl 21 (by decide) (hts _ w_832) (fun _ h9 => h9) rfl (tyX10_ok 21 (by decide)) rfl rfl (Nat.le_of_ble_eq_true rfl) dX10_comment_29 (fun H locs hP hD hS => ?_)
        have hP := zm_pf21 (X := M) hP
        have hD := zm_df21 (X := M) hD
        refine lv_aload_n hx hb dX10_comment_32 rfl (lv_at hl 0 rfl) ?_
        refine lv_iload_n hx hb dX10_comment_33 rfl (lv_at hl 1 rfl) ?_
        refine za_cv (wc := zm_ws g h ad (zm_s M 21 0)) (wr := []) C hP hD hS [0, 1, 2, 3, 4, 5, 6, 7, 8, 9, 10, 11, 12, 13, 14, 15, 16, 17] [] rfl rfl (by decide) (by decide) (za_runV C hP hD hS [0, 1, 2, 3, 4, 5, 6, 7, 8, 9, 10, 11, 12, 13, 14, 15, 16, 17] rfl (by decide) rfl (kX10_gap l g E h ad (zm_s M 21 0) x hT) w_973 mX10_gap 0 rfl rfl rfl rfl hl.1 rfl (Nat.le_of_ble_eq_true rfl) dX10_comment_34 ⟨by decide, by decide⟩ ⟨by decide, by decide⟩) (fun M23 H locs hM23 hP hD hS => ?_)
        have hP : va_P g.1 vwCl (zm_ws g h ad M23) H := hP
        have hD : va_D A (zm_ws g h ad M23) := hD
        subst hM23
        exact zm_rv hQ hx hb hr hlocks hK hP hD hS (by simp [zm_comment, zq_upd, eq_true c_6, eq_true c_12, eq_true c_24]) dX10_comment_37
    · refine lv_iload_n hx hb dX10_comment_15 rfl (lv_at hl 1 rfl) ?_
      refine lv_iconst (v := (-1)) hx hb dX10_comment_16 (by decide) ?_
      refine lv_icmp_ne (tgt := 38) hx hb dX10_comment_17 (by decide) (fun c_17 => ?_) (fun c_17 => ?_)
      · refine lv_aload_n hx hb dX10_comment_38 rfl (lv_at hl 0 rfl) ?_
        refine va_get (ci := 9) (v := .int (M.1 21)) hx hb hts iX10 hown hK hP 0 rfl rfl 21 (by decide) (hts _ w_832) (fun _ h9 => h9) rfl dX10_comment_39 ?_
        refine lv_bipush (v := 20) hx hb dX10_comment_42 (by decide) ?_
        refine lv_icmp_ne (tgt := 59) hx hb dX10_comment_44 (by decide) (fun c_44 => ?_) (fun c_44 => ?_)
        · refine lv_iload_n hx hb dX10_comment_59 rfl (lv_at hl 1 rfl) ?_
          refine lv_bipush (v := 10) hx hb dX10_comment_60 (by decide) ?_
          refine lv_icmp_ne (tgt := 88) hx hb dX10_comment_62 (by decide) (fun c_62 => ?_) (fun c_62 => ?_)
          · refine lv_aload_n hx hb dX10_comment_88 rfl (lv_at hl 0 rfl) ?_
            refine lv_iconst (v := 0) hx hb dX10_comment_89 (by decide) ?_
            refine va_put (ci := 9) (fs := zm_fs ad M.1) (v := .int 0) hx hb hts iX10 tyX10 tyX10_ok nmX10 hown hK hP hD hS 0 rfl rfl 32 (by decide) (hts _ w_843) (fun _ h9 => h9) rfl (tyX10_ok 32 (by decide)) rfl rfl (Nat.le_of_ble_eq_true rfl) dX10_comment_90 (fun H locs hP hD hS => ?_)
            have hP := zm_pf32 (X := M) hP
            have hD := zm_df32 (X := M) hD
            refine lv_iload_n hx hb dX10_comment_93 rfl (lv_at hl 1 rfl) ?_
            refine lv_if_ne (tgt := 102) hx hb dX10_comment_94 (by decide) (fun c_94 => ?_) (fun c_94 => ?_)
            · refine lv_aload_n hx hb dX10_comment_102 rfl (lv_at hl 0 rfl) ?_
              refine lv_iload_n hx hb dX10_comment_103 rfl (lv_at hl 1 rfl) ?_
              refine lv_if_ne (tgt := 111) hx hb dX10_comment_104 (by decide) (fun c_104 => ?_) (fun c_104 => ?_)
              · refine lv_iload_n hx hb dX10_comment_111 rfl (lv_at hl 1 rfl) ?_
                refine za_cv (wc := zm_ws g h ad (zm_s M 32 0)) (wr := []) C hP hD hS [0, 1, 2, 3, 4, 5, 6, 7, 8, 9, 10, 11, 12, 13, 14, 15, 16, 17] [] rfl rfl (by decide) (by decide) (za_runV C hP hD hS [0, 1, 2, 3, 4, 5, 6, 7, 8, 9, 10, 11, 12, 13, 14, 15, 16, 17] rfl (by decide) rfl (kX10_quoted l g E h ad (zm_s M 32 0) x hT hs hk D hd9 hD9) w_1062 mX10_quoted 0 rfl rfl rfl rfl hl.1 rfl (Nat.le_of_ble_eq_true rfl) dX10_comment_112 ⟨by decide, by decide⟩ ⟨by decide, by decide⟩) (fun M24 H locs hM24 hP hD hS => ?_)
                have hP : va_P g.1 vwCl (zm_ws g h ad M24) H := hP
                have hD : va_D A (zm_ws g h ad M24) := hD
                refine lv_aload_n hx hb dX10_comment_115 rfl (lv_at hl 0 rfl) ?_
                refine va_get (ci := 9) (v := .int (M24.1 21)) hx hb hts iX10 hown hK hP 0 rfl rfl 21 (by decide) (hts _ w_832) (fun _ h9 => h9) rfl dX10_comment_116 ?_
                refine lv_bipush (v := 18) hx hb dX10_comment_119 (by decide) ?_
                refine lv_icmp_eq (tgt := 141) hx hb dX10_comment_121 (by decide) (fun c_121 => ?_) (fun c_121 => ?_)
                · subst hM24
                  exact zm_rv hQ hx hb hr hlocks hK hP hD hS (by simp [zm_comment, zq_upd, eq_true c_6, c_12, c_17, c_44, c_62, c_94, c_104, eq_true c_121]) dX10_comment_141
                · refine lv_aload_n hx hb dX10_comment_124 rfl (lv_at hl 0 rfl) ?_
                  have J_138 : ∀ v9 : Int32, v9 = (zr_cm x) → W p l e (za_R 6 0 0) s m args below meth co H locs 0 0 Q (F0 m 138 ls (.int v9 :: [.ref h])) := by
                    intro v_138 hv_138
                    refine va_put (ci := 9) (fs := zm_fs ad M24.1) (v := .int v_138) hx hb hts iX10 tyX10 tyX10_ok nmX10 hown hK hP hD hS 0 rfl rfl 21 (by decide) (hts _ w_832) (fun _ h9 => h9) rfl (tyX10_ok 21 (by decide)) rfl rfl (Nat.le_of_ble_eq_true rfl) dX10_comment_138 (fun H locs hP hD hS => ?_)
                    have hP := zm_pf21 (X := M24) hP
                    have hD := zm_df21 (X := M24) hD
                    subst hv_138
                    subst hM24
                    exact zm_rv hQ hx hb hr hlocks hK hP hD hS (by simp [zm_comment, zq_upd, eq_true c_6, c_12, c_17, c_44, c_62, c_94, c_104, c_121]) dX10_comment_141
                  refine lv_iload_n hx hb dX10_comment_125 rfl (lv_at hl 1 rfl) ?_
                  refine lv_bipush (v := 42) hx hb dX10_comment_126 (by decide) ?_
                  refine lv_icmp_ne (tgt := 136) hx hb dX10_comment_128 (by decide) (fun c_128 => ?_) (fun c_128 => ?_)
                  · refine lv_bipush (v := 19) hx hb dX10_comment_136 (by decide) ?_
                    exact J_138 19 (by simp [zr_cm, eq_true c_6, c_12, c_17, c_44, c_62, c_94, c_104, c_121, c_128])
                  · refine lv_bipush (v := 20) hx hb dX10_comment_131 (by decide) ?_
                    refine lv_goto (tgt := 138) hx hb dX10_comment_133 (by decide) ?_
                    exact J_138 20 (by simp [zr_cm, eq_true c_6, c_12, c_17, c_44, c_62, c_94, c_104, c_121, eq_true c_128])
              · exact absurd c_104 c_94
            · refine lv_aload_n hx hb dX10_comment_97 rfl (lv_at hl 0 rfl) ?_
              refine za_cv (wc := zm_ws g h ad (zm_s M 32 0)) (wr := []) C hP hD hS [0, 1, 2, 3, 4, 5, 6, 7, 8, 9, 10, 11, 12, 13, 14, 15, 16, 17] [] rfl rfl (by decide) (by decide) (za_runV C hP hD hS [0, 1, 2, 3, 4, 5, 6, 7, 8, 9, 10, 11, 12, 13, 14, 15, 16, 17] rfl (by decide) rfl (kX10_error l g E h ad (zm_s M 32 0)  ) w_1010 mX10_error 0 rfl rfl rfl rfl hl.1 rfl (Nat.le_of_ble_eq_true rfl) dX10_comment_98 ⟨by decide, by decide⟩ ⟨by decide, by decide⟩) (fun M25 H locs hM25 hP hD hS => ?_)
              have hP : va_P g.1 vwCl (zm_ws g h ad M25) H := hP
              have hD : va_D A (zm_ws g h ad M25) := hD
              subst hM25
              exact zm_rv hQ hx hb hr hlocks hK hP hD hS (by simp [zm_comment, zq_upd, eq_true c_6, c_12, c_17, c_44, c_62, eq_true c_94]) dX10_comment_101
          · exact absurd c_62 c_12
        · refine lv_iload_n hx hb dX10_comment_47 rfl (lv_at hl 1 rfl) ?_
          refine lv_bipush (v := 47) hx hb dX10_comment_48 (by decide) ?_
          refine lv_icmp_ne (tgt := 59) hx hb dX10_comment_50 (by decide) (fun c_50 => ?_) (fun c_50 => ?_)
          · refine lv_iload_n hx hb dX10_comment_59 rfl (lv_at hl 1 rfl) ?_
            refine lv_bipush (v := 10) hx hb dX10_comment_60 (by decide) ?_
            refine lv_icmp_ne (tgt := 88) hx hb dX10_comment_62 (by decide) (fun c_62 => ?_) (fun c_62 => ?_)
            · refine lv_aload_n hx hb dX10_comment_88 rfl (lv_at hl 0 rfl) ?_
              refine lv_iconst (v := 0) hx hb dX10_comment_89 (by decide) ?_
              refine va_put (ci := 9) (fs := zm_fs ad M.1) (v := .int 0) hx hb hts iX10 tyX10 tyX10_ok nmX10 hown hK hP hD hS 0 rfl rfl 32 (by decide) (hts _ w_843) (fun _ h9 => h9) rfl (tyX10_ok 32 (by decide)) rfl rfl (Nat.le_of_ble_eq_true rfl) dX10_comment_90 (fun H locs hP hD hS => ?_)
              have hP := zm_pf32 (X := M) hP
              have hD := zm_df32 (X := M) hD
              refine lv_iload_n hx hb dX10_comment_93 rfl (lv_at hl 1 rfl) ?_
              refine lv_if_ne (tgt := 102) hx hb dX10_comment_94 (by decide) (fun c_94 => ?_) (fun c_94 => ?_)
              · refine lv_aload_n hx hb dX10_comment_102 rfl (lv_at hl 0 rfl) ?_
                refine lv_iload_n hx hb dX10_comment_103 rfl (lv_at hl 1 rfl) ?_
                refine lv_if_ne (tgt := 111) hx hb dX10_comment_104 (by decide) (fun c_104 => ?_) (fun c_104 => ?_)
                · refine lv_iload_n hx hb dX10_comment_111 rfl (lv_at hl 1 rfl) ?_
                  refine za_cv (wc := zm_ws g h ad (zm_s M 32 0)) (wr := []) C hP hD hS [0, 1, 2, 3, 4, 5, 6, 7, 8, 9, 10, 11, 12, 13, 14, 15, 16, 17] [] rfl rfl (by decide) (by decide) (za_runV C hP hD hS [0, 1, 2, 3, 4, 5, 6, 7, 8, 9, 10, 11, 12, 13, 14, 15, 16, 17] rfl (by decide) rfl (kX10_quoted l g E h ad (zm_s M 32 0) x hT hs hk D hd9 hD9) w_1062 mX10_quoted 0 rfl rfl rfl rfl hl.1 rfl (Nat.le_of_ble_eq_true rfl) dX10_comment_112 ⟨by decide, by decide⟩ ⟨by decide, by decide⟩) (fun M26 H locs hM26 hP hD hS => ?_)
                  have hP : va_P g.1 vwCl (zm_ws g h ad M26) H := hP
                  have hD : va_D A (zm_ws g h ad M26) := hD
                  refine lv_aload_n hx hb dX10_comment_115 rfl (lv_at hl 0 rfl) ?_
                  refine va_get (ci := 9) (v := .int (M26.1 21)) hx hb hts iX10 hown hK hP 0 rfl rfl 21 (by decide) (hts _ w_832) (fun _ h9 => h9) rfl dX10_comment_116 ?_
                  refine lv_bipush (v := 18) hx hb dX10_comment_119 (by decide) ?_
                  refine lv_icmp_eq (tgt := 141) hx hb dX10_comment_121 (by decide) (fun c_121 => ?_) (fun c_121 => ?_)
                  · subst hM26
                    exact zm_rv hQ hx hb hr hlocks hK hP hD hS (by simp [zm_comment, zq_upd, eq_true c_6, c_12, c_17, eq_true c_44, c_50, c_62, c_94, c_104, eq_true c_121]) dX10_comment_141
                  · refine lv_aload_n hx hb dX10_comment_124 rfl (lv_at hl 0 rfl) ?_
                    have J_138 : ∀ v9 : Int32, v9 = (zr_cm x) → W p l e (za_R 6 0 0) s m args below meth co H locs 0 0 Q (F0 m 138 ls (.int v9 :: [.ref h])) := by
                      intro v_138 hv_138
                      refine va_put (ci := 9) (fs := zm_fs ad M26.1) (v := .int v_138) hx hb hts iX10 tyX10 tyX10_ok nmX10 hown hK hP hD hS 0 rfl rfl 21 (by decide) (hts _ w_832) (fun _ h9 => h9) rfl (tyX10_ok 21 (by decide)) rfl rfl (Nat.le_of_ble_eq_true rfl) dX10_comment_138 (fun H locs hP hD hS => ?_)
                      have hP := zm_pf21 (X := M26) hP
                      have hD := zm_df21 (X := M26) hD
                      subst hv_138
                      subst hM26
                      exact zm_rv hQ hx hb hr hlocks hK hP hD hS (by simp [zm_comment, zq_upd, eq_true c_6, c_12, c_17, eq_true c_44, c_50, c_62, c_94, c_104, c_121]) dX10_comment_141
                    refine lv_iload_n hx hb dX10_comment_125 rfl (lv_at hl 1 rfl) ?_
                    refine lv_bipush (v := 42) hx hb dX10_comment_126 (by decide) ?_
                    refine lv_icmp_ne (tgt := 136) hx hb dX10_comment_128 (by decide) (fun c_128 => ?_) (fun c_128 => ?_)
                    · refine lv_bipush (v := 19) hx hb dX10_comment_136 (by decide) ?_
                      exact J_138 19 (by simp [zr_cm, eq_true c_6, c_12, c_17, eq_true c_44, c_50, c_62, c_94, c_104, c_121, c_128])
                    · refine lv_bipush (v := 20) hx hb dX10_comment_131 (by decide) ?_
                      refine lv_goto (tgt := 138) hx hb dX10_comment_133 (by decide) ?_
                      exact J_138 20 (by simp [zr_cm, eq_true c_6, c_12, c_17, eq_true c_44, c_50, c_62, c_94, c_104, c_121, eq_true c_128])
                · exact absurd c_104 c_94
              · refine lv_aload_n hx hb dX10_comment_97 rfl (lv_at hl 0 rfl) ?_
                refine za_cv (wc := zm_ws g h ad (zm_s M 32 0)) (wr := []) C hP hD hS [0, 1, 2, 3, 4, 5, 6, 7, 8, 9, 10, 11, 12, 13, 14, 15, 16, 17] [] rfl rfl (by decide) (by decide) (za_runV C hP hD hS [0, 1, 2, 3, 4, 5, 6, 7, 8, 9, 10, 11, 12, 13, 14, 15, 16, 17] rfl (by decide) rfl (kX10_error l g E h ad (zm_s M 32 0)  ) w_1010 mX10_error 0 rfl rfl rfl rfl hl.1 rfl (Nat.le_of_ble_eq_true rfl) dX10_comment_98 ⟨by decide, by decide⟩ ⟨by decide, by decide⟩) (fun M27 H locs hM27 hP hD hS => ?_)
                have hP : va_P g.1 vwCl (zm_ws g h ad M27) H := hP
                have hD : va_D A (zm_ws g h ad M27) := hD
                subst hM27
                exact zm_rv hQ hx hb hr hlocks hK hP hD hS (by simp [zm_comment, zq_upd, eq_true c_6, c_12, c_17, eq_true c_44, c_50, c_62, eq_true c_94]) dX10_comment_101
            · exact absurd c_62 c_12
          · refine lv_aload_n hx hb dX10_comment_53 rfl (lv_at hl 0 rfl) ?_
            refine lv_iconst (v := 0) hx hb dX10_comment_54 (by decide) ?_
            refine va_put (ci := 9) (fs := zm_fs ad M.1) (v := .int 0) hx hb hts iX10 tyX10 tyX10_ok nmX10 hown hK hP hD hS 0 rfl rfl 21 (by decide) (hts _ w_832) (fun _ h9 => h9) rfl (tyX10_ok 21 (by decide)) rfl rfl (Nat.le_of_ble_eq_true rfl) dX10_comment_55 (fun H locs hP hD hS => ?_)
            have hP := zm_pf21 (X := M) hP
            have hD := zm_df21 (X := M) hD
            exact zm_rv hQ hx hb hr hlocks hK hP hD hS (by simp [zm_comment, zq_upd, eq_true c_6, c_12, c_17, eq_true c_44, eq_true c_50]) dX10_comment_58
      · refine lv_aload_n hx hb dX10_comment_20 rfl (lv_at hl 0 rfl) ?_
        refine va_get (ci := 9) (v := .int (M.1 33)) hx hb hts iX10 hown hK hP 0 rfl rfl 33 (by decide) (hts _ w_844) (fun _ h9 => h9) rfl dX10_comment_21 ?_
        refine lv_if_ne (tgt := 38) hx hb dX10_comment_24 (by decide) (fun c_24 => ?_) (fun c_24 => ?_)
        · refine lv_aload_n hx hb dX10_comment_38 rfl (lv_at hl 0 rfl) ?_
          refine va_get (ci := 9) (v := .int (M.1 21)) hx hb hts iX10 hown hK hP 0 rfl rfl 21 (by decide) (hts _ w_832) (fun _ h9 => h9) rfl dX10_comment_39 ?_
          refine lv_bipush (v := 20) hx hb dX10_comment_42 (by decide) ?_
          refine lv_icmp_ne (tgt := 59) hx hb dX10_comment_44 (by decide) (fun c_44 => ?_) (fun c_44 => ?_)
          · refine lv_iload_n hx hb dX10_comment_59 rfl (lv_at hl 1 rfl) ?_
            refine lv_bipush (v := 10) hx hb dX10_comment_60 (by decide) ?_
            refine lv_icmp_ne (tgt := 88) hx hb dX10_comment_62 (by decide) (fun c_62 => ?_) (fun c_62 => ?_)
            · refine lv_aload_n hx hb dX10_comment_88 rfl (lv_at hl 0 rfl) ?_
              refine lv_iconst (v := 0) hx hb dX10_comment_89 (by decide) ?_
              refine va_put (ci := 9) (fs := zm_fs ad M.1) (v := .int 0) hx hb hts iX10 tyX10 tyX10_ok nmX10 hown hK hP hD hS 0 rfl rfl 32 (by decide) (hts _ w_843) (fun _ h9 => h9) rfl (tyX10_ok 32 (by decide)) rfl rfl (Nat.le_of_ble_eq_true rfl) dX10_comment_90 (fun H locs hP hD hS => ?_)
              have hP := zm_pf32 (X := M) hP
              have hD := zm_df32 (X := M) hD
              refine lv_iload_n hx hb dX10_comment_93 rfl (lv_at hl 1 rfl) ?_
              refine lv_if_ne (tgt := 102) hx hb dX10_comment_94 (by decide) (fun c_94 => ?_) (fun c_94 => ?_)
              · refine lv_aload_n hx hb dX10_comment_102 rfl (lv_at hl 0 rfl) ?_
                refine lv_iload_n hx hb dX10_comment_103 rfl (lv_at hl 1 rfl) ?_
                refine lv_if_ne (tgt := 111) hx hb dX10_comment_104 (by decide) (fun c_104 => ?_) (fun c_104 => ?_)
                · refine lv_iload_n hx hb dX10_comment_111 rfl (lv_at hl 1 rfl) ?_
                  refine za_cv (wc := zm_ws g h ad (zm_s M 32 0)) (wr := []) C hP hD hS [0, 1, 2, 3, 4, 5, 6, 7, 8, 9, 10, 11, 12, 13, 14, 15, 16, 17] [] rfl rfl (by decide) (by decide) (za_runV C hP hD hS [0, 1, 2, 3, 4, 5, 6, 7, 8, 9, 10, 11, 12, 13, 14, 15, 16, 17] rfl (by decide) rfl (kX10_quoted l g E h ad (zm_s M 32 0) x hT hs hk D hd9 hD9) w_1062 mX10_quoted 0 rfl rfl rfl rfl hl.1 rfl (Nat.le_of_ble_eq_true rfl) dX10_comment_112 ⟨by decide, by decide⟩ ⟨by decide, by decide⟩) (fun M28 H locs hM28 hP hD hS => ?_)
                  have hP : va_P g.1 vwCl (zm_ws g h ad M28) H := hP
                  have hD : va_D A (zm_ws g h ad M28) := hD
                  refine lv_aload_n hx hb dX10_comment_115 rfl (lv_at hl 0 rfl) ?_
                  refine va_get (ci := 9) (v := .int (M28.1 21)) hx hb hts iX10 hown hK hP 0 rfl rfl 21 (by decide) (hts _ w_832) (fun _ h9 => h9) rfl dX10_comment_116 ?_
                  refine lv_bipush (v := 18) hx hb dX10_comment_119 (by decide) ?_
                  refine lv_icmp_eq (tgt := 141) hx hb dX10_comment_121 (by decide) (fun c_121 => ?_) (fun c_121 => ?_)
                  · subst hM28
                    exact zm_rv hQ hx hb hr hlocks hK hP hD hS (by simp [zm_comment, zq_upd, eq_true c_6, c_12, eq_true c_17, c_24, c_44, c_62, c_94, c_104, eq_true c_121]) dX10_comment_141
                  · refine lv_aload_n hx hb dX10_comment_124 rfl (lv_at hl 0 rfl) ?_
                    have J_138 : ∀ v9 : Int32, v9 = (zr_cm x) → W p l e (za_R 6 0 0) s m args below meth co H locs 0 0 Q (F0 m 138 ls (.int v9 :: [.ref h])) := by
                      intro v_138 hv_138
                      refine va_put (ci := 9) (fs := zm_fs ad M28.1) (v := .int v_138) hx hb hts iX10 tyX10 tyX10_ok nmX10 hown hK hP hD hS 0 rfl rfl 21 (by decide) (hts _ w_832) (fun _ h9 => h9) rfl (tyX10_ok 21 (by decide)) rfl rfl (Nat.le_of_ble_eq_true rfl) dX10_comment_138 (fun H locs hP hD hS => ?_)
                      have hP := zm_pf21 (X := M28) hP
                      have hD := zm_df21 (X := M28) hD
                      subst hv_138
                      subst hM28
                      exact zm_rv hQ hx hb hr hlocks hK hP hD hS (by simp [zm_comment, zq_upd, eq_true c_6, c_12, eq_true c_17, c_24, c_44, c_62, c_94, c_104, c_121]) dX10_comment_141
                    refine lv_iload_n hx hb dX10_comment_125 rfl (lv_at hl 1 rfl) ?_
                    refine lv_bipush (v := 42) hx hb dX10_comment_126 (by decide) ?_
                    refine lv_icmp_ne (tgt := 136) hx hb dX10_comment_128 (by decide) (fun c_128 => ?_) (fun c_128 => ?_)
                    · refine lv_bipush (v := 19) hx hb dX10_comment_136 (by decide) ?_
                      exact J_138 19 (by simp [zr_cm, eq_true c_6, c_12, eq_true c_17, c_24, c_44, c_62, c_94, c_104, c_121, c_128])
                    · refine lv_bipush (v := 20) hx hb dX10_comment_131 (by decide) ?_
                      refine lv_goto (tgt := 138) hx hb dX10_comment_133 (by decide) ?_
                      exact J_138 20 (by simp [zr_cm, eq_true c_6, c_12, eq_true c_17, c_24, c_44, c_62, c_94, c_104, c_121, eq_true c_128])
                · exact absurd c_104 c_94
              · refine lv_aload_n hx hb dX10_comment_97 rfl (lv_at hl 0 rfl) ?_
                refine za_cv (wc := zm_ws g h ad (zm_s M 32 0)) (wr := []) C hP hD hS [0, 1, 2, 3, 4, 5, 6, 7, 8, 9, 10, 11, 12, 13, 14, 15, 16, 17] [] rfl rfl (by decide) (by decide) (za_runV C hP hD hS [0, 1, 2, 3, 4, 5, 6, 7, 8, 9, 10, 11, 12, 13, 14, 15, 16, 17] rfl (by decide) rfl (kX10_error l g E h ad (zm_s M 32 0)  ) w_1010 mX10_error 0 rfl rfl rfl rfl hl.1 rfl (Nat.le_of_ble_eq_true rfl) dX10_comment_98 ⟨by decide, by decide⟩ ⟨by decide, by decide⟩) (fun M29 H locs hM29 hP hD hS => ?_)
                have hP : va_P g.1 vwCl (zm_ws g h ad M29) H := hP
                have hD : va_D A (zm_ws g h ad M29) := hD
                subst hM29
                exact zm_rv hQ hx hb hr hlocks hK hP hD hS (by simp [zm_comment, zq_upd, eq_true c_6, c_12, eq_true c_17, c_24, c_44, c_62, eq_true c_94]) dX10_comment_101
            · exact absurd c_62 c_12
          · refine lv_iload_n hx hb dX10_comment_47 rfl (lv_at hl 1 rfl) ?_
            refine lv_bipush (v := 47) hx hb dX10_comment_48 (by decide) ?_
            refine lv_icmp_ne (tgt := 59) hx hb dX10_comment_50 (by decide) (fun c_50 => ?_) (fun c_50 => ?_)
            · refine lv_iload_n hx hb dX10_comment_59 rfl (lv_at hl 1 rfl) ?_
              refine lv_bipush (v := 10) hx hb dX10_comment_60 (by decide) ?_
              refine lv_icmp_ne (tgt := 88) hx hb dX10_comment_62 (by decide) (fun c_62 => ?_) (fun c_62 => ?_)
              · refine lv_aload_n hx hb dX10_comment_88 rfl (lv_at hl 0 rfl) ?_
                refine lv_iconst (v := 0) hx hb dX10_comment_89 (by decide) ?_
                refine va_put (ci := 9) (fs := zm_fs ad M.1) (v := .int 0) hx hb hts iX10 tyX10 tyX10_ok nmX10 hown hK hP hD hS 0 rfl rfl 32 (by decide) (hts _ w_843) (fun _ h9 => h9) rfl (tyX10_ok 32 (by decide)) rfl rfl (Nat.le_of_ble_eq_true rfl) dX10_comment_90 (fun H locs hP hD hS => ?_)
                have hP := zm_pf32 (X := M) hP
                have hD := zm_df32 (X := M) hD
                refine lv_iload_n hx hb dX10_comment_93 rfl (lv_at hl 1 rfl) ?_
                refine lv_if_ne (tgt := 102) hx hb dX10_comment_94 (by decide) (fun c_94 => ?_) (fun c_94 => ?_)
                · refine lv_aload_n hx hb dX10_comment_102 rfl (lv_at hl 0 rfl) ?_
                  refine lv_iload_n hx hb dX10_comment_103 rfl (lv_at hl 1 rfl) ?_
                  refine lv_if_ne (tgt := 111) hx hb dX10_comment_104 (by decide) (fun c_104 => ?_) (fun c_104 => ?_)
                  · refine lv_iload_n hx hb dX10_comment_111 rfl (lv_at hl 1 rfl) ?_
                    refine za_cv (wc := zm_ws g h ad (zm_s M 32 0)) (wr := []) C hP hD hS [0, 1, 2, 3, 4, 5, 6, 7, 8, 9, 10, 11, 12, 13, 14, 15, 16, 17] [] rfl rfl (by decide) (by decide) (za_runV C hP hD hS [0, 1, 2, 3, 4, 5, 6, 7, 8, 9, 10, 11, 12, 13, 14, 15, 16, 17] rfl (by decide) rfl (kX10_quoted l g E h ad (zm_s M 32 0) x hT hs hk D hd9 hD9) w_1062 mX10_quoted 0 rfl rfl rfl rfl hl.1 rfl (Nat.le_of_ble_eq_true rfl) dX10_comment_112 ⟨by decide, by decide⟩ ⟨by decide, by decide⟩) (fun M30 H locs hM30 hP hD hS => ?_)
                    have hP : va_P g.1 vwCl (zm_ws g h ad M30) H := hP
                    have hD : va_D A (zm_ws g h ad M30) := hD
                    refine lv_aload_n hx hb dX10_comment_115 rfl (lv_at hl 0 rfl) ?_
                    refine va_get (ci := 9) (v := .int (M30.1 21)) hx hb hts iX10 hown hK hP 0 rfl rfl 21 (by decide) (hts _ w_832) (fun _ h9 => h9) rfl dX10_comment_116 ?_
                    refine lv_bipush (v := 18) hx hb dX10_comment_119 (by decide) ?_
                    refine lv_icmp_eq (tgt := 141) hx hb dX10_comment_121 (by decide) (fun c_121 => ?_) (fun c_121 => ?_)
                    · subst hM30
                      exact zm_rv hQ hx hb hr hlocks hK hP hD hS (by simp [zm_comment, zq_upd, eq_true c_6, c_12, eq_true c_17, c_24, eq_true c_44, c_50, c_62, c_94, c_104, eq_true c_121]) dX10_comment_141
                    · refine lv_aload_n hx hb dX10_comment_124 rfl (lv_at hl 0 rfl) ?_
                      have J_138 : ∀ v9 : Int32, v9 = (zr_cm x) → W p l e (za_R 6 0 0) s m args below meth co H locs 0 0 Q (F0 m 138 ls (.int v9 :: [.ref h])) := by
                        intro v_138 hv_138
                        refine va_put (ci := 9) (fs := zm_fs ad M30.1) (v := .int v_138) hx hb hts iX10 tyX10 tyX10_ok nmX10 hown hK hP hD hS 0 rfl rfl 21 (by decide) (hts _ w_832) (fun _ h9 => h9) rfl (tyX10_ok 21 (by decide)) rfl rfl (Nat.le_of_ble_eq_true rfl) dX10_comment_138 (fun H locs hP hD hS => ?_)
                        have hP := zm_pf21 (X := M30) hP
                        have hD := zm_df21 (X := M30) hD
                        subst hv_138
                        subst hM30
                        exact zm_rv hQ hx hb hr hlocks hK hP hD hS (by simp [zm_comment, zq_upd, eq_true c_6, c_12, eq_true c_17, c_24, eq_true c_44, c_50, c_62, c_94, c_104, c_121]) dX10_comment_141
                      refine lv_iload_n hx hb dX10_comment_125 rfl (lv_at hl 1 rfl) ?_
                      refine lv_bipush (v := 42) hx hb dX10_comment_126 (by decide) ?_
                      refine lv_icmp_ne (tgt := 136) hx hb dX10_comment_128 (by decide) (fun c_128 => ?_) (fun c_128 => ?_)
                      · refine lv_bipush (v := 19) hx hb dX10_comment_136 (by decide) ?_
                        exact J_138 19 (by simp [zr_cm, eq_true c_6, c_12, eq_true c_17, c_24, eq_true c_44, c_50, c_62, c_94, c_104, c_121, c_128])
                      · refine lv_bipush (v := 20) hx hb dX10_comment_131 (by decide) ?_
                        refine lv_goto (tgt := 138) hx hb dX10_comment_133 (by decide) ?_
                        exact J_138 20 (by simp [zr_cm, eq_true c_6, c_12, eq_true c_17, c_24, eq_true c_44, c_50, c_62, c_94, c_104, c_121, eq_true c_128])
                  · exact absurd c_104 c_94
                · refine lv_aload_n hx hb dX10_comment_97 rfl (lv_at hl 0 rfl) ?_
                  refine za_cv (wc := zm_ws g h ad (zm_s M 32 0)) (wr := []) C hP hD hS [0, 1, 2, 3, 4, 5, 6, 7, 8, 9, 10, 11, 12, 13, 14, 15, 16, 17] [] rfl rfl (by decide) (by decide) (za_runV C hP hD hS [0, 1, 2, 3, 4, 5, 6, 7, 8, 9, 10, 11, 12, 13, 14, 15, 16, 17] rfl (by decide) rfl (kX10_error l g E h ad (zm_s M 32 0)  ) w_1010 mX10_error 0 rfl rfl rfl rfl hl.1 rfl (Nat.le_of_ble_eq_true rfl) dX10_comment_98 ⟨by decide, by decide⟩ ⟨by decide, by decide⟩) (fun M31 H locs hM31 hP hD hS => ?_)
                  have hP : va_P g.1 vwCl (zm_ws g h ad M31) H := hP
                  have hD : va_D A (zm_ws g h ad M31) := hD
                  subst hM31
                  exact zm_rv hQ hx hb hr hlocks hK hP hD hS (by simp [zm_comment, zq_upd, eq_true c_6, c_12, eq_true c_17, c_24, eq_true c_44, c_50, c_62, eq_true c_94]) dX10_comment_101
              · exact absurd c_62 c_12
            · refine lv_aload_n hx hb dX10_comment_53 rfl (lv_at hl 0 rfl) ?_
              refine lv_iconst (v := 0) hx hb dX10_comment_54 (by decide) ?_
              refine va_put (ci := 9) (fs := zm_fs ad M.1) (v := .int 0) hx hb hts iX10 tyX10 tyX10_ok nmX10 hown hK hP hD hS 0 rfl rfl 21 (by decide) (hts _ w_832) (fun _ h9 => h9) rfl (tyX10_ok 21 (by decide)) rfl rfl (Nat.le_of_ble_eq_true rfl) dX10_comment_55 (fun H locs hP hD hS => ?_)
              have hP := zm_pf21 (X := M) hP
              have hD := zm_df21 (X := M) hD
              exact zm_rv hQ hx hb hr hlocks hK hP hD hS (by simp [zm_comment, zq_upd, eq_true c_6, c_12, eq_true c_17, c_24, eq_true c_44, eq_true c_50]) dX10_comment_58
        · refine lv_aload_n hx hb dX10_comment_27 rfl (lv_at hl 0 rfl) ?_
          refine lv_iconst (v := 0) hx hb dX10_comment_28 (by decide) ?_
          refine va_put (ci := 9) (fs := zm_fs ad M.1) (v := .int 0) hx hb hts iX10 tyX10 tyX10_ok nmX10 hown hK hP hD hS 0 rfl rfl 21 (by decide) (hts _ w_832) (fun _ h9 => h9) rfl (tyX10_ok 21 (by decide)) rfl rfl (Nat.le_of_ble_eq_true rfl) dX10_comment_29 (fun H locs hP hD hS => ?_)
          have hP := zm_pf21 (X := M) hP
          have hD := zm_df21 (X := M) hD
          refine lv_aload_n hx hb dX10_comment_32 rfl (lv_at hl 0 rfl) ?_
          refine lv_iload_n hx hb dX10_comment_33 rfl (lv_at hl 1 rfl) ?_
          refine za_cv (wc := zm_ws g h ad (zm_s M 21 0)) (wr := []) C hP hD hS [0, 1, 2, 3, 4, 5, 6, 7, 8, 9, 10, 11, 12, 13, 14, 15, 16, 17] [] rfl rfl (by decide) (by decide) (za_runV C hP hD hS [0, 1, 2, 3, 4, 5, 6, 7, 8, 9, 10, 11, 12, 13, 14, 15, 16, 17] rfl (by decide) rfl (kX10_gap l g E h ad (zm_s M 21 0) x hT) w_973 mX10_gap 0 rfl rfl rfl rfl hl.1 rfl (Nat.le_of_ble_eq_true rfl) dX10_comment_34 ⟨by decide, by decide⟩ ⟨by decide, by decide⟩) (fun M32 H locs hM32 hP hD hS => ?_)
          have hP : va_P g.1 vwCl (zm_ws g h ad M32) H := hP
          have hD : va_D A (zm_ws g h ad M32) := hD
          subst hM32
          exact zm_rv hQ hx hb hr hlocks hK hP hD hS (by simp [zm_comment, zq_upd, eq_true c_6, c_12, eq_true c_17, eq_true c_24]) dX10_comment_37
set_option maxHeartbeats 4000000 in
set_option maxRecDepth 100000 in
theorem kX10_numeral (l : Launch) (g : za_G) (E : za_E) (h : Nat) (ad : Nat → Nat) (M : zm_M) (x : Int32) (hT : zm_T M) (hB : zm_B M) (h1 : M.1 21 = 11 → vp_in (M.1 27 - 1) 65536) : za_Cv l g E yX10_numeral cX10_numeral 4 7 0 0 [.ref h, .int x] (zm_ws g h ad M) (fun u : zm_M => u = zm_numeral M x) (fun u => zm_ws g h ad u) := by
  refine za_begin (by decide) (Nat.le_of_ble_eq_true rfl) RX10 rfl ?_
  intro p e s m args below meth co A ls Q H locs C hQ hr hlocks hnm hS hP hD hl
  obtain ⟨hx, hb, hml, hown, hts, hK, hA, hE⟩ := id C
  have hl : lv_has ls 4 [(0, .ref h), (1, .int x)] := hl
  refine lv_iload_n hx hb dX10_numeral_0 rfl (lv_at hl 1 rfl) ?_
  refine za_ci (wc := []) (wr := zm_ws g h ad M) C hP hD hS [] [0, 1, 2, 3, 4, 5, 6, 7, 8, 9, 10, 11, 12, 13, 14, 15, 16, 17] rfl rfl (by decide) (by decide) (za_runS C hP hD hS [] rfl (by decide) rfl (kX10_digit l g E  x ) w_996 mX10_digit rfl hl.1 rfl (Nat.le_of_ble_eq_true rfl) dX10_numeral_1 ⟨by decide, by decide⟩ ⟨by decide, by decide⟩) (fun r1 _ H locs hr1 hP hD hS => ?_)
  have hP : va_P g.1 vwCl (zm_ws g h ad M) H := hP
  have hD : va_D A (zm_ws g h ad M) := hD
  refine lv_istore_n (lv' := [(2, .int r1), (0, .ref h), (1, .int x)]) hx hb dX10_numeral_4 rfl hl (by decide) rfl (fun ls hl => ?_)
  have J_22 : ∀ v9 : Int32, v9 = (zr_e x) → W p l e (za_R 7 0 0) s m args below meth co H locs 0 0 Q (F0 m 22 ls (.int v9 :: [])) := by
    intro v_22 hv_22
    refine lv_istore_n (lv' := [(3, .int v_22), (2, .int r1), (0, .ref h), (1, .int x)]) hx hb dX10_numeral_22 rfl hl (by decide) rfl (fun ls hl => ?_)
    refine lv_aload_n hx hb dX10_numeral_23 rfl (lv_at hl 2 rfl) ?_
    refine va_get (ci := 9) (v := .int (M.1 21)) hx hb hts iX10 hown hK hP 0 rfl rfl 21 (by decide) (hts _ w_832) (fun _ h9 => h9) rfl dX10_numeral_24 ?_
    refine lv_bipush (v := 11) hx hb dX10_numeral_27 (by decide) ?_
    refine lv_icmp_ne (tgt := 120) hx hb dX10_numeral_29 (by decide) (fun c_29 => ?_) (fun c_29 => ?_)
    · refine lv_aload_n hx hb dX10_numeral_120 rfl (lv_at hl 2 rfl) ?_
      refine va_get (ci := 9) (v := .int (M.1 26)) hx hb hts iX10 hown hK hP 0 rfl rfl 26 (by decide) (hts _ w_837) (fun _ h9 => h9) rfl dX10_numeral_121 ?_
      refine lv_if_eq (tgt := 225) hx hb dX10_numeral_124 (by decide) (fun c_124 => ?_) (fun c_124 => ?_)
      · refine lv_aload_n hx hb dX10_numeral_225 rfl (lv_at hl 2 rfl) ?_
        refine va_get (ci := 9) (v := .int (M.1 21)) hx hb hts iX10 hown hK hP 0 rfl rfl 21 (by decide) (hts _ w_832) (fun _ h9 => h9) rfl dX10_numeral_226 ?_
        refine lv_iconst (v := 2) hx hb dX10_numeral_229 (by decide) ?_
        refine lv_icmp_ne (tgt := 334) hx hb dX10_numeral_230 (by decide) (fun c_230 => ?_) (fun c_230 => ?_)
        · refine lv_iload_n hx hb dX10_numeral_334 rfl (lv_at hl 1 rfl) ?_
          refine lv_if_eq (tgt := 393) hx hb dX10_numeral_335 (by decide) (fun c_335 => ?_) (fun c_335 => ?_)
          · refine lv_iload_n hx hb dX10_numeral_393 rfl (lv_at hl 3 rfl) ?_
            refine lv_bipush (v := 95) hx hb dX10_numeral_394 (by decide) ?_
            refine lv_icmp_ne (tgt := 436) hx hb dX10_numeral_396 (by decide) (fun c_396 => ?_) (fun c_396 => ?_)
            · refine lv_iload_n hx hb dX10_numeral_436 rfl (lv_at hl 3 rfl) ?_
              refine lv_bipush (v := 46) hx hb dX10_numeral_437 (by decide) ?_
              refine lv_icmp_ne (tgt := 483) hx hb dX10_numeral_439 (by decide) (fun c_439 => ?_) (fun c_439 => ?_)
              · refine lv_iload_n hx hb dX10_numeral_483 rfl (lv_at hl 0 rfl) ?_
                refine lv_if_eq (tgt := 510) hx hb dX10_numeral_484 (by decide) (fun c_484 => ?_) (fun c_484 => ?_)
                · refine lv_iload_n hx hb dX10_numeral_510 rfl (lv_at hl 3 rfl) ?_
                  refine za_ci (wc := []) (wr := zm_ws g h ad M) C hP hD hS [] [0, 1, 2, 3, 4, 5, 6, 7, 8, 9, 10, 11, 12, 13, 14, 15, 16, 17] rfl rfl (by decide) (by decide) (za_runS C hP hD hS [] rfl (by decide) rfl (kX10_letter l g E  x ) w_993 mX10_letter rfl hl.1 rfl (Nat.le_of_ble_eq_true rfl) dX10_numeral_511 ⟨by decide, by decide⟩ ⟨by decide, by decide⟩) (fun r2 _ H locs hr2 hP hD hS => ?_)
                  have hP : va_P g.1 vwCl (zm_ws g h ad M) H := hP
                  have hD : va_D A (zm_ws g h ad M) := hD
                  refine lv_if_ne (tgt := 525) hx hb dX10_numeral_514 (by decide) (fun c_514 => ?_) (fun c_514 => ?_)
                  · refine lv_aload_n hx hb dX10_numeral_525 rfl (lv_at hl 2 rfl) ?_
                    refine za_cv (wc := zm_ws g h ad M) (wr := []) C hP hD hS [0, 1, 2, 3, 4, 5, 6, 7, 8, 9, 10, 11, 12, 13, 14, 15, 16, 17] [] rfl rfl (by decide) (by decide) (za_runV C hP hD hS [0, 1, 2, 3, 4, 5, 6, 7, 8, 9, 10, 11, 12, 13, 14, 15, 16, 17] rfl (by decide) rfl (kX10_error l g E h ad M  ) w_1010 mX10_error 0 rfl rfl rfl rfl hl.1 rfl (Nat.le_of_ble_eq_true rfl) dX10_numeral_526 ⟨by decide, by decide⟩ ⟨by decide, by decide⟩) (fun M3 H locs hM3 hP hD hS => ?_)
                    have hP : va_P g.1 vwCl (zm_ws g h ad M3) H := hP
                    have hD : va_D A (zm_ws g h ad M3) := hD
                    refine lv_goto (tgt := 584) hx hb dX10_numeral_529 (by decide) ?_
                    subst hM3
                    subst hr2
                    subst hv_22
                    subst hr1
                    exact zm_rv hQ hx hb hr hlocks hK hP hD hS (by simp [zm_numeral, zq_upd, c_29, eq_true c_124, c_230, eq_true c_335, c_396, c_439, eq_true c_484, c_514]) dX10_numeral_584
                  · refine lv_aload_n hx hb dX10_numeral_517 rfl (lv_at hl 2 rfl) ?_
                    refine va_get (ci := 9) (v := .int (M.1 21)) hx hb hts iX10 hown hK hP 0 rfl rfl 21 (by decide) (hts _ w_832) (fun _ h9 => h9) rfl dX10_numeral_518 ?_
                    refine lv_iconst (v := 4) hx hb dX10_numeral_521 (by decide) ?_
                    refine lv_icmp_ne (tgt := 532) hx hb dX10_numeral_522 (by decide) (fun c_522 => ?_) (fun c_522 => ?_)
                    · refine lv_aload_n hx hb dX10_numeral_532 rfl (lv_at hl 2 rfl) ?_
                      have J_548 : ∀ v9 : Int32, v9 = (zr_st4 (M.1 21)) → W p l e (za_R 7 0 0) s m args below meth co H locs 0 0 Q (F0 m 548 ls (.int v9 :: [.ref h])) := by
                        intro v_548 hv_548
                        refine va_put (ci := 9) (fs := zm_fs ad M.1) (v := .int v_548) hx hb hts iX10 tyX10 tyX10_ok nmX10 hown hK hP hD hS 0 rfl rfl 22 (by decide) (hts _ w_833) (fun _ h9 => h9) rfl (tyX10_ok 22 (by decide)) rfl rfl (Nat.le_of_ble_eq_true rfl) dX10_numeral_548 (fun H locs hP hD hS => ?_)
                        have hP := zm_pf22 (X := M) hP
                        have hD := zm_df22 (X := M) hD
                        refine lv_aload_n hx hb dX10_numeral_551 rfl (lv_at hl 2 rfl) ?_
                        have J_581 : ∀ v9 : Int32, v9 = (zr_st5 (M.1 21)) → W p l e (za_R 7 0 0) s m args below meth co H locs 0 0 Q (F0 m 581 ls (.int v9 :: [.ref h])) := by
                          intro v_581 hv_581
                          refine za_cv (wc := zm_ws g h ad (zm_s M 22 v_548)) (wr := []) C hP hD hS [0, 1, 2, 3, 4, 5, 6, 7, 8, 9, 10, 11, 12, 13, 14, 15, 16, 17] [] rfl rfl (by decide) (by decide) (za_runV C hP hD hS [0, 1, 2, 3, 4, 5, 6, 7, 8, 9, 10, 11, 12, 13, 14, 15, 16, 17] rfl (by decide) rfl (kX10_ends l g E h ad (zm_s M 22 v_548) v_581 hT hB) w_1042 mX10_ends 0 rfl rfl rfl rfl hl.1 rfl (Nat.le_of_ble_eq_true rfl) dX10_numeral_581 ⟨by decide, by decide⟩ ⟨by decide, by decide⟩) (fun M4 H locs hM4 hP hD hS => ?_)
                          have hP : va_P g.1 vwCl (zm_ws g h ad M4) H := hP
                          have hD : va_D A (zm_ws g h ad M4) := hD
                          subst hM4
                          subst hv_581
                          subst hv_548
                          subst hr2
                          subst hv_22
                          subst hr1
                          exact zm_rv hQ hx hb hr hlocks hK hP hD hS (by simp [zm_numeral, zq_upd, c_29, eq_true c_124, c_230, eq_true c_335, c_396, c_439, eq_true c_484, eq_true c_514, c_522]) dX10_numeral_584
                        refine lv_aload_n hx hb dX10_numeral_552 rfl (lv_at hl 2 rfl) ?_
                        refine va_get (ci := 9) (v := .int (M.1 21)) hx hb hts iX10 hown hK hP 0 rfl rfl 21 (by decide) (hts _ w_832) (fun _ h9 => h9) rfl dX10_numeral_553 ?_
                        refine lv_iconst (v := 2) hx hb dX10_numeral_556 (by decide) ?_
                        refine lv_icmp_eq (tgt := 576) hx hb dX10_numeral_557 (by decide) (fun c_557 => ?_) (fun c_557 => ?_)
                        · exact absurd c_557 c_230
                        · refine lv_aload_n hx hb dX10_numeral_560 rfl (lv_at hl 2 rfl) ?_
                          refine va_get (ci := 9) (v := .int (M.1 21)) hx hb hts iX10 hown hK hP 0 rfl rfl 21 (by decide) (hts _ w_832) (fun _ h9 => h9) rfl dX10_numeral_561 ?_
                          refine lv_iconst (v := 3) hx hb dX10_numeral_564 (by decide) ?_
                          refine lv_icmp_eq (tgt := 576) hx hb dX10_numeral_565 (by decide) (fun c_565 => ?_) (fun c_565 => ?_)
                          · refine lv_iconst (v := 1) hx hb dX10_numeral_576 (by decide) ?_
                            refine lv_goto (tgt := 581) hx hb dX10_numeral_577 (by decide) ?_
                            exact J_581 1 (by simp [zr_st5, c_29, eq_true c_124, c_230, eq_true c_335, c_396, c_439, eq_true c_484, eq_true c_514, c_522, c_557, eq_true c_565, hr1, hr2])
                          · refine lv_aload_n hx hb dX10_numeral_568 rfl (lv_at hl 2 rfl) ?_
                            refine va_get (ci := 9) (v := .int (M.1 21)) hx hb hts iX10 hown hK hP 0 rfl rfl 21 (by decide) (hts _ w_832) (fun _ h9 => h9) rfl dX10_numeral_569 ?_
                            refine lv_iconst (v := 5) hx hb dX10_numeral_572 (by decide) ?_
                            refine lv_icmp_ne (tgt := 580) hx hb dX10_numeral_573 (by decide) (fun c_573 => ?_) (fun c_573 => ?_)
                            · refine lv_iconst (v := 0) hx hb dX10_numeral_580 (by decide) ?_
                              exact J_581 0 (by simp [zr_st5, c_29, eq_true c_124, c_230, eq_true c_335, c_396, c_439, eq_true c_484, eq_true c_514, c_522, c_557, c_565, c_573, hr1, hr2])
                            · refine lv_iconst (v := 1) hx hb dX10_numeral_576 (by decide) ?_
                              refine lv_goto (tgt := 581) hx hb dX10_numeral_577 (by decide) ?_
                              exact J_581 1 (by simp [zr_st5, c_29, eq_true c_124, c_230, eq_true c_335, c_396, c_439, eq_true c_484, eq_true c_514, c_522, c_557, c_565, eq_true c_573, hr1, hr2])
                      refine lv_aload_n hx hb dX10_numeral_533 rfl (lv_at hl 2 rfl) ?_
                      refine va_get (ci := 9) (v := .int (M.1 21)) hx hb hts iX10 hown hK hP 0 rfl rfl 21 (by decide) (hts _ w_832) (fun _ h9 => h9) rfl dX10_numeral_534 ?_
                      refine lv_iconst (v := 3) hx hb dX10_numeral_537 (by decide) ?_
                      refine lv_icmp_ne (tgt := 546) hx hb dX10_numeral_538 (by decide) (fun c_538 => ?_) (fun c_538 => ?_)
                      · refine lv_bipush (v := 10) hx hb dX10_numeral_546 (by decide) ?_
                        exact J_548 10 (by simp [zr_st4, c_29, eq_true c_124, c_230, eq_true c_335, c_396, c_439, eq_true c_484, eq_true c_514, c_522, c_538, hr1, hr2])
                      · refine lv_bipush (v := 8) hx hb dX10_numeral_541 (by decide) ?_
                        refine lv_goto (tgt := 548) hx hb dX10_numeral_543 (by decide) ?_
                        exact J_548 8 (by simp [zr_st4, c_29, eq_true c_124, c_230, eq_true c_335, c_396, c_439, eq_true c_484, eq_true c_514, c_522, eq_true c_538, hr1, hr2])
                    · refine lv_aload_n hx hb dX10_numeral_525 rfl (lv_at hl 2 rfl) ?_
                      refine za_cv (wc := zm_ws g h ad M) (wr := []) C hP hD hS [0, 1, 2, 3, 4, 5, 6, 7, 8, 9, 10, 11, 12, 13, 14, 15, 16, 17] [] rfl rfl (by decide) (by decide) (za_runV C hP hD hS [0, 1, 2, 3, 4, 5, 6, 7, 8, 9, 10, 11, 12, 13, 14, 15, 16, 17] rfl (by decide) rfl (kX10_error l g E h ad M  ) w_1010 mX10_error 0 rfl rfl rfl rfl hl.1 rfl (Nat.le_of_ble_eq_true rfl) dX10_numeral_526 ⟨by decide, by decide⟩ ⟨by decide, by decide⟩) (fun M5 H locs hM5 hP hD hS => ?_)
                      have hP : va_P g.1 vwCl (zm_ws g h ad M5) H := hP
                      have hD : va_D A (zm_ws g h ad M5) := hD
                      refine lv_goto (tgt := 584) hx hb dX10_numeral_529 (by decide) ?_
                      subst hM5
                      subst hr2
                      subst hv_22
                      subst hr1
                      exact zm_rv hQ hx hb hr hlocks hK hP hD hS (by simp [zm_numeral, zq_upd, c_29, eq_true c_124, c_230, eq_true c_335, c_396, c_439, eq_true c_484, eq_true c_514, eq_true c_522]) dX10_numeral_584
                · refine lv_aload_n hx hb dX10_numeral_487 rfl (lv_at hl 2 rfl) ?_
                  refine va_get (ci := 9) (v := .int (M.1 21)) hx hb hts iX10 hown hK hP 0 rfl rfl 21 (by decide) (hts _ w_832) (fun _ h9 => h9) rfl dX10_numeral_488 ?_
                  refine lv_bipush (v := 10) hx hb dX10_numeral_491 (by decide) ?_
                  refine lv_icmp_eq (tgt := 510) hx hb dX10_numeral_493 (by decide) (fun c_493 => ?_) (fun c_493 => ?_)
                  · refine lv_iload_n hx hb dX10_numeral_510 rfl (lv_at hl 3 rfl) ?_
                    refine za_ci (wc := []) (wr := zm_ws g h ad M) C hP hD hS [] [0, 1, 2, 3, 4, 5, 6, 7, 8, 9, 10, 11, 12, 13, 14, 15, 16, 17] rfl rfl (by decide) (by decide) (za_runS C hP hD hS [] rfl (by decide) rfl (kX10_letter l g E  x ) w_993 mX10_letter rfl hl.1 rfl (Nat.le_of_ble_eq_true rfl) dX10_numeral_511 ⟨by decide, by decide⟩ ⟨by decide, by decide⟩) (fun r6 _ H locs hr6 hP hD hS => ?_)
                    have hP : va_P g.1 vwCl (zm_ws g h ad M) H := hP
                    have hD : va_D A (zm_ws g h ad M) := hD
                    refine lv_if_ne (tgt := 525) hx hb dX10_numeral_514 (by decide) (fun c_514 => ?_) (fun c_514 => ?_)
                    · refine lv_aload_n hx hb dX10_numeral_525 rfl (lv_at hl 2 rfl) ?_
                      refine za_cv (wc := zm_ws g h ad M) (wr := []) C hP hD hS [0, 1, 2, 3, 4, 5, 6, 7, 8, 9, 10, 11, 12, 13, 14, 15, 16, 17] [] rfl rfl (by decide) (by decide) (za_runV C hP hD hS [0, 1, 2, 3, 4, 5, 6, 7, 8, 9, 10, 11, 12, 13, 14, 15, 16, 17] rfl (by decide) rfl (kX10_error l g E h ad M  ) w_1010 mX10_error 0 rfl rfl rfl rfl hl.1 rfl (Nat.le_of_ble_eq_true rfl) dX10_numeral_526 ⟨by decide, by decide⟩ ⟨by decide, by decide⟩) (fun M7 H locs hM7 hP hD hS => ?_)
                      have hP : va_P g.1 vwCl (zm_ws g h ad M7) H := hP
                      have hD : va_D A (zm_ws g h ad M7) := hD
                      refine lv_goto (tgt := 584) hx hb dX10_numeral_529 (by decide) ?_
                      subst hM7
                      subst hr6
                      subst hv_22
                      subst hr1
                      exact zm_rv hQ hx hb hr hlocks hK hP hD hS (by simp [zm_numeral, zq_upd, c_29, eq_true c_124, c_230, eq_true c_335, c_396, c_439, c_484, eq_true c_493, c_514]) dX10_numeral_584
                    · refine lv_aload_n hx hb dX10_numeral_517 rfl (lv_at hl 2 rfl) ?_
                      refine va_get (ci := 9) (v := .int (M.1 21)) hx hb hts iX10 hown hK hP 0 rfl rfl 21 (by decide) (hts _ w_832) (fun _ h9 => h9) rfl dX10_numeral_518 ?_
                      refine lv_iconst (v := 4) hx hb dX10_numeral_521 (by decide) ?_
                      refine lv_icmp_ne (tgt := 532) hx hb dX10_numeral_522 (by decide) (fun c_522 => ?_) (fun c_522 => ?_)
                      · refine lv_aload_n hx hb dX10_numeral_532 rfl (lv_at hl 2 rfl) ?_
                        have J_548 : ∀ v9 : Int32, v9 = (zr_st4 (M.1 21)) → W p l e (za_R 7 0 0) s m args below meth co H locs 0 0 Q (F0 m 548 ls (.int v9 :: [.ref h])) := by
                          intro v_548 hv_548
                          refine va_put (ci := 9) (fs := zm_fs ad M.1) (v := .int v_548) hx hb hts iX10 tyX10 tyX10_ok nmX10 hown hK hP hD hS 0 rfl rfl 22 (by decide) (hts _ w_833) (fun _ h9 => h9) rfl (tyX10_ok 22 (by decide)) rfl rfl (Nat.le_of_ble_eq_true rfl) dX10_numeral_548 (fun H locs hP hD hS => ?_)
                          have hP := zm_pf22 (X := M) hP
                          have hD := zm_df22 (X := M) hD
                          refine lv_aload_n hx hb dX10_numeral_551 rfl (lv_at hl 2 rfl) ?_
                          have J_581 : ∀ v9 : Int32, v9 = (zr_st5 (M.1 21)) → W p l e (za_R 7 0 0) s m args below meth co H locs 0 0 Q (F0 m 581 ls (.int v9 :: [.ref h])) := by
                            intro v_581 hv_581
                            refine za_cv (wc := zm_ws g h ad (zm_s M 22 v_548)) (wr := []) C hP hD hS [0, 1, 2, 3, 4, 5, 6, 7, 8, 9, 10, 11, 12, 13, 14, 15, 16, 17] [] rfl rfl (by decide) (by decide) (za_runV C hP hD hS [0, 1, 2, 3, 4, 5, 6, 7, 8, 9, 10, 11, 12, 13, 14, 15, 16, 17] rfl (by decide) rfl (kX10_ends l g E h ad (zm_s M 22 v_548) v_581 hT hB) w_1042 mX10_ends 0 rfl rfl rfl rfl hl.1 rfl (Nat.le_of_ble_eq_true rfl) dX10_numeral_581 ⟨by decide, by decide⟩ ⟨by decide, by decide⟩) (fun M8 H locs hM8 hP hD hS => ?_)
                            have hP : va_P g.1 vwCl (zm_ws g h ad M8) H := hP
                            have hD : va_D A (zm_ws g h ad M8) := hD
                            subst hM8
                            subst hv_581
                            subst hv_548
                            subst hr6
                            subst hv_22
                            subst hr1
                            exact zm_rv hQ hx hb hr hlocks hK hP hD hS (by simp [zm_numeral, zq_upd, c_29, eq_true c_124, c_230, eq_true c_335, c_396, c_439, c_484, eq_true c_493, eq_true c_514, c_522]) dX10_numeral_584
                          refine lv_aload_n hx hb dX10_numeral_552 rfl (lv_at hl 2 rfl) ?_
                          refine va_get (ci := 9) (v := .int (M.1 21)) hx hb hts iX10 hown hK hP 0 rfl rfl 21 (by decide) (hts _ w_832) (fun _ h9 => h9) rfl dX10_numeral_553 ?_
                          refine lv_iconst (v := 2) hx hb dX10_numeral_556 (by decide) ?_
                          refine lv_icmp_eq (tgt := 576) hx hb dX10_numeral_557 (by decide) (fun c_557 => ?_) (fun c_557 => ?_)
                          · exact absurd c_557 c_230
                          · refine lv_aload_n hx hb dX10_numeral_560 rfl (lv_at hl 2 rfl) ?_
                            refine va_get (ci := 9) (v := .int (M.1 21)) hx hb hts iX10 hown hK hP 0 rfl rfl 21 (by decide) (hts _ w_832) (fun _ h9 => h9) rfl dX10_numeral_561 ?_
                            refine lv_iconst (v := 3) hx hb dX10_numeral_564 (by decide) ?_
                            refine lv_icmp_eq (tgt := 576) hx hb dX10_numeral_565 (by decide) (fun c_565 => ?_) (fun c_565 => ?_)
                            · refine lv_iconst (v := 1) hx hb dX10_numeral_576 (by decide) ?_
                              refine lv_goto (tgt := 581) hx hb dX10_numeral_577 (by decide) ?_
                              exact J_581 1 (by simp [zr_st5, c_29, eq_true c_124, c_230, eq_true c_335, c_396, c_439, c_484, eq_true c_493, eq_true c_514, c_522, c_557, eq_true c_565, hr1, hr6])
                            · refine lv_aload_n hx hb dX10_numeral_568 rfl (lv_at hl 2 rfl) ?_
                              refine va_get (ci := 9) (v := .int (M.1 21)) hx hb hts iX10 hown hK hP 0 rfl rfl 21 (by decide) (hts _ w_832) (fun _ h9 => h9) rfl dX10_numeral_569 ?_
                              refine lv_iconst (v := 5) hx hb dX10_numeral_572 (by decide) ?_
                              refine lv_icmp_ne (tgt := 580) hx hb dX10_numeral_573 (by decide) (fun c_573 => ?_) (fun c_573 => ?_)
                              · refine lv_iconst (v := 0) hx hb dX10_numeral_580 (by decide) ?_
                                exact J_581 0 (by simp [zr_st5, c_29, eq_true c_124, c_230, eq_true c_335, c_396, c_439, c_484, eq_true c_493, eq_true c_514, c_522, c_557, c_565, c_573, hr1, hr6])
                              · refine lv_iconst (v := 1) hx hb dX10_numeral_576 (by decide) ?_
                                refine lv_goto (tgt := 581) hx hb dX10_numeral_577 (by decide) ?_
                                exact J_581 1 (by simp [zr_st5, c_29, eq_true c_124, c_230, eq_true c_335, c_396, c_439, c_484, eq_true c_493, eq_true c_514, c_522, c_557, c_565, eq_true c_573, hr1, hr6])
                        refine lv_aload_n hx hb dX10_numeral_533 rfl (lv_at hl 2 rfl) ?_
                        refine va_get (ci := 9) (v := .int (M.1 21)) hx hb hts iX10 hown hK hP 0 rfl rfl 21 (by decide) (hts _ w_832) (fun _ h9 => h9) rfl dX10_numeral_534 ?_
                        refine lv_iconst (v := 3) hx hb dX10_numeral_537 (by decide) ?_
                        refine lv_icmp_ne (tgt := 546) hx hb dX10_numeral_538 (by decide) (fun c_538 => ?_) (fun c_538 => ?_)
                        · refine lv_bipush (v := 10) hx hb dX10_numeral_546 (by decide) ?_
                          exact J_548 10 (by simp [zr_st4, c_29, eq_true c_124, c_230, eq_true c_335, c_396, c_439, c_484, eq_true c_493, eq_true c_514, c_522, c_538, hr1, hr6])
                        · refine lv_bipush (v := 8) hx hb dX10_numeral_541 (by decide) ?_
                          refine lv_goto (tgt := 548) hx hb dX10_numeral_543 (by decide) ?_
                          exact J_548 8 (by simp [zr_st4, c_29, eq_true c_124, c_230, eq_true c_335, c_396, c_439, c_484, eq_true c_493, eq_true c_514, c_522, eq_true c_538, hr1, hr6])
                      · refine lv_aload_n hx hb dX10_numeral_525 rfl (lv_at hl 2 rfl) ?_
                        refine za_cv (wc := zm_ws g h ad M) (wr := []) C hP hD hS [0, 1, 2, 3, 4, 5, 6, 7, 8, 9, 10, 11, 12, 13, 14, 15, 16, 17] [] rfl rfl (by decide) (by decide) (za_runV C hP hD hS [0, 1, 2, 3, 4, 5, 6, 7, 8, 9, 10, 11, 12, 13, 14, 15, 16, 17] rfl (by decide) rfl (kX10_error l g E h ad M  ) w_1010 mX10_error 0 rfl rfl rfl rfl hl.1 rfl (Nat.le_of_ble_eq_true rfl) dX10_numeral_526 ⟨by decide, by decide⟩ ⟨by decide, by decide⟩) (fun M9 H locs hM9 hP hD hS => ?_)
                        have hP : va_P g.1 vwCl (zm_ws g h ad M9) H := hP
                        have hD : va_D A (zm_ws g h ad M9) := hD
                        refine lv_goto (tgt := 584) hx hb dX10_numeral_529 (by decide) ?_
                        subst hM9
                        subst hr6
                        subst hv_22
                        subst hr1
                        exact zm_rv hQ hx hb hr hlocks hK hP hD hS (by simp [zm_numeral, zq_upd, c_29, eq_true c_124, c_230, eq_true c_335, c_396, c_439, c_484, eq_true c_493, eq_true c_514, eq_true c_522]) dX10_numeral_584
                  · refine lv_aload_n hx hb dX10_numeral_496 rfl (lv_at hl 2 rfl) ?_
                    refine lv_bipush (v := 8) hx hb dX10_numeral_497 (by decide) ?_
                    refine va_put (ci := 9) (fs := zm_fs ad M.1) (v := .int 8) hx hb hts iX10 tyX10 tyX10_ok nmX10 hown hK hP hD hS 0 rfl rfl 21 (by decide) (hts _ w_832) (fun _ h9 => h9) rfl (tyX10_ok 21 (by decide)) rfl rfl (Nat.le_of_ble_eq_true rfl) dX10_numeral_499 (fun H locs hP hD hS => ?_)
                    have hP := zm_pf21 (X := M) hP
                    have hD := zm_df21 (X := M) hD
                    refine lv_aload_n hx hb dX10_numeral_502 rfl (lv_at hl 2 rfl) ?_
                    refine lv_iconst (v := 1) hx hb dX10_numeral_503 (by decide) ?_
                    refine va_put (ci := 9) (fs := zm_fs ad (zm_s M 21 8).1) (v := .int 1) hx hb hts iX10 tyX10 tyX10_ok nmX10 hown hK hP hD hS 0 rfl rfl 26 (by decide) (hts _ w_837) (fun _ h9 => h9) rfl (tyX10_ok 26 (by decide)) rfl rfl (Nat.le_of_ble_eq_true rfl) dX10_numeral_504 (fun H locs hP hD hS => ?_)
                    have hP := zm_pf26 (X := zm_s M 21 8) hP
                    have hD := zm_df26 (X := zm_s M 21 8) hD
                    refine lv_goto (tgt := 584) hx hb dX10_numeral_507 (by decide) ?_
                    subst hv_22
                    subst hr1
                    exact zm_rv hQ hx hb hr hlocks hK hP hD hS (by simp [zm_numeral, zq_upd, c_29, eq_true c_124, c_230, eq_true c_335, c_396, c_439, c_484, c_493]) dX10_numeral_584
              · refine lv_aload_n hx hb dX10_numeral_442 rfl (lv_at hl 2 rfl) ?_
                refine va_get (ci := 9) (v := .int (M.1 21)) hx hb hts iX10 hown hK hP 0 rfl rfl 21 (by decide) (hts _ w_832) (fun _ h9 => h9) rfl dX10_numeral_443 ?_
                refine lv_iconst (v := 2) hx hb dX10_numeral_446 (by decide) ?_
                refine lv_icmp_eq (tgt := 474) hx hb dX10_numeral_447 (by decide) (fun c_447 => ?_) (fun c_447 => ?_)
                · exact absurd c_447 c_230
                · refine lv_aload_n hx hb dX10_numeral_450 rfl (lv_at hl 2 rfl) ?_
                  refine va_get (ci := 9) (v := .int (M.1 21)) hx hb hts iX10 hown hK hP 0 rfl rfl 21 (by decide) (hts _ w_832) (fun _ h9 => h9) rfl dX10_numeral_451 ?_
                  refine lv_iconst (v := 3) hx hb dX10_numeral_454 (by decide) ?_
                  refine lv_icmp_eq (tgt := 474) hx hb dX10_numeral_455 (by decide) (fun c_455 => ?_) (fun c_455 => ?_)
                  · refine lv_aload_n hx hb dX10_numeral_474 rfl (lv_at hl 2 rfl) ?_
                    refine lv_bipush (v := 6) hx hb dX10_numeral_475 (by decide) ?_
                    refine va_put (ci := 9) (fs := zm_fs ad M.1) (v := .int 6) hx hb hts iX10 tyX10 tyX10_ok nmX10 hown hK hP hD hS 0 rfl rfl 21 (by decide) (hts _ w_832) (fun _ h9 => h9) rfl (tyX10_ok 21 (by decide)) rfl rfl (Nat.le_of_ble_eq_true rfl) dX10_numeral_477 (fun H locs hP hD hS => ?_)
                    have hP := zm_pf21 (X := M) hP
                    have hD := zm_df21 (X := M) hD
                    refine lv_goto (tgt := 584) hx hb dX10_numeral_480 (by decide) ?_
                    subst hv_22
                    subst hr1
                    exact zm_rv hQ hx hb hr hlocks hK hP hD hS (by simp [zm_numeral, zq_upd, c_29, eq_true c_124, c_230, eq_true c_335, c_396, eq_true c_439, c_447, eq_true c_455]) dX10_numeral_584
                  · refine lv_aload_n hx hb dX10_numeral_458 rfl (lv_at hl 2 rfl) ?_
                    refine va_get (ci := 9) (v := .int (M.1 21)) hx hb hts iX10 hown hK hP 0 rfl rfl 21 (by decide) (hts _ w_832) (fun _ h9 => h9) rfl dX10_numeral_459 ?_
                    refine lv_iconst (v := 4) hx hb dX10_numeral_462 (by decide) ?_
                    refine lv_icmp_eq (tgt := 474) hx hb dX10_numeral_463 (by decide) (fun c_463 => ?_) (fun c_463 => ?_)
                    · refine lv_aload_n hx hb dX10_numeral_474 rfl (lv_at hl 2 rfl) ?_
                      refine lv_bipush (v := 6) hx hb dX10_numeral_475 (by decide) ?_
                      refine va_put (ci := 9) (fs := zm_fs ad M.1) (v := .int 6) hx hb hts iX10 tyX10 tyX10_ok nmX10 hown hK hP hD hS 0 rfl rfl 21 (by decide) (hts _ w_832) (fun _ h9 => h9) rfl (tyX10_ok 21 (by decide)) rfl rfl (Nat.le_of_ble_eq_true rfl) dX10_numeral_477 (fun H locs hP hD hS => ?_)
                      have hP := zm_pf21 (X := M) hP
                      have hD := zm_df21 (X := M) hD
                      refine lv_goto (tgt := 584) hx hb dX10_numeral_480 (by decide) ?_
                      subst hv_22
                      subst hr1
                      exact zm_rv hQ hx hb hr hlocks hK hP hD hS (by simp [zm_numeral, zq_upd, c_29, eq_true c_124, c_230, eq_true c_335, c_396, eq_true c_439, c_447, c_455, eq_true c_463]) dX10_numeral_584
                    · refine lv_aload_n hx hb dX10_numeral_466 rfl (lv_at hl 2 rfl) ?_
                      refine va_get (ci := 9) (v := .int (M.1 21)) hx hb hts iX10 hown hK hP 0 rfl rfl 21 (by decide) (hts _ w_832) (fun _ h9 => h9) rfl dX10_numeral_467 ?_
                      refine lv_iconst (v := 5) hx hb dX10_numeral_470 (by decide) ?_
                      refine lv_icmp_ne (tgt := 483) hx hb dX10_numeral_471 (by decide) (fun c_471 => ?_) (fun c_471 => ?_)
                      · refine lv_iload_n hx hb dX10_numeral_483 rfl (lv_at hl 0 rfl) ?_
                        refine lv_if_eq (tgt := 510) hx hb dX10_numeral_484 (by decide) (fun c_484 => ?_) (fun c_484 => ?_)
                        · refine lv_iload_n hx hb dX10_numeral_510 rfl (lv_at hl 3 rfl) ?_
                          refine za_ci (wc := []) (wr := zm_ws g h ad M) C hP hD hS [] [0, 1, 2, 3, 4, 5, 6, 7, 8, 9, 10, 11, 12, 13, 14, 15, 16, 17] rfl rfl (by decide) (by decide) (za_runS C hP hD hS [] rfl (by decide) rfl (kX10_letter l g E  x ) w_993 mX10_letter rfl hl.1 rfl (Nat.le_of_ble_eq_true rfl) dX10_numeral_511 ⟨by decide, by decide⟩ ⟨by decide, by decide⟩) (fun r10 _ H locs hr10 hP hD hS => ?_)
                          have hP : va_P g.1 vwCl (zm_ws g h ad M) H := hP
                          have hD : va_D A (zm_ws g h ad M) := hD
                          refine lv_if_ne (tgt := 525) hx hb dX10_numeral_514 (by decide) (fun c_514 => ?_) (fun c_514 => ?_)
                          · refine lv_aload_n hx hb dX10_numeral_525 rfl (lv_at hl 2 rfl) ?_
                            refine za_cv (wc := zm_ws g h ad M) (wr := []) C hP hD hS [0, 1, 2, 3, 4, 5, 6, 7, 8, 9, 10, 11, 12, 13, 14, 15, 16, 17] [] rfl rfl (by decide) (by decide) (za_runV C hP hD hS [0, 1, 2, 3, 4, 5, 6, 7, 8, 9, 10, 11, 12, 13, 14, 15, 16, 17] rfl (by decide) rfl (kX10_error l g E h ad M  ) w_1010 mX10_error 0 rfl rfl rfl rfl hl.1 rfl (Nat.le_of_ble_eq_true rfl) dX10_numeral_526 ⟨by decide, by decide⟩ ⟨by decide, by decide⟩) (fun M11 H locs hM11 hP hD hS => ?_)
                            have hP : va_P g.1 vwCl (zm_ws g h ad M11) H := hP
                            have hD : va_D A (zm_ws g h ad M11) := hD
                            refine lv_goto (tgt := 584) hx hb dX10_numeral_529 (by decide) ?_
                            subst hM11
                            subst hr10
                            subst hv_22
                            subst hr1
                            exact zm_rv hQ hx hb hr hlocks hK hP hD hS (by simp [zm_numeral, zq_upd, c_29, eq_true c_124, c_230, eq_true c_335, c_396, eq_true c_439, c_447, c_455, c_463, c_471, eq_true c_484, c_514]) dX10_numeral_584
                          · refine lv_aload_n hx hb dX10_numeral_517 rfl (lv_at hl 2 rfl) ?_
                            refine va_get (ci := 9) (v := .int (M.1 21)) hx hb hts iX10 hown hK hP 0 rfl rfl 21 (by decide) (hts _ w_832) (fun _ h9 => h9) rfl dX10_numeral_518 ?_
                            refine lv_iconst (v := 4) hx hb dX10_numeral_521 (by decide) ?_
                            refine lv_icmp_ne (tgt := 532) hx hb dX10_numeral_522 (by decide) (fun c_522 => ?_) (fun c_522 => ?_)
                            · refine lv_aload_n hx hb dX10_numeral_532 rfl (lv_at hl 2 rfl) ?_
                              have J_548 : ∀ v9 : Int32, v9 = (zr_st4 (M.1 21)) → W p l e (za_R 7 0 0) s m args below meth co H locs 0 0 Q (F0 m 548 ls (.int v9 :: [.ref h])) := by
                                intro v_548 hv_548
                                refine va_put (ci := 9) (fs := zm_fs ad M.1) (v := .int v_548) hx hb hts iX10 tyX10 tyX10_ok nmX10 hown hK hP hD hS 0 rfl rfl 22 (by decide) (hts _ w_833) (fun _ h9 => h9) rfl (tyX10_ok 22 (by decide)) rfl rfl (Nat.le_of_ble_eq_true rfl) dX10_numeral_548 (fun H locs hP hD hS => ?_)
                                have hP := zm_pf22 (X := M) hP
                                have hD := zm_df22 (X := M) hD
                                refine lv_aload_n hx hb dX10_numeral_551 rfl (lv_at hl 2 rfl) ?_
                                have J_581 : ∀ v9 : Int32, v9 = (zr_st5 (M.1 21)) → W p l e (za_R 7 0 0) s m args below meth co H locs 0 0 Q (F0 m 581 ls (.int v9 :: [.ref h])) := by
                                  intro v_581 hv_581
                                  refine za_cv (wc := zm_ws g h ad (zm_s M 22 v_548)) (wr := []) C hP hD hS [0, 1, 2, 3, 4, 5, 6, 7, 8, 9, 10, 11, 12, 13, 14, 15, 16, 17] [] rfl rfl (by decide) (by decide) (za_runV C hP hD hS [0, 1, 2, 3, 4, 5, 6, 7, 8, 9, 10, 11, 12, 13, 14, 15, 16, 17] rfl (by decide) rfl (kX10_ends l g E h ad (zm_s M 22 v_548) v_581 hT hB) w_1042 mX10_ends 0 rfl rfl rfl rfl hl.1 rfl (Nat.le_of_ble_eq_true rfl) dX10_numeral_581 ⟨by decide, by decide⟩ ⟨by decide, by decide⟩) (fun M12 H locs hM12 hP hD hS => ?_)
                                  have hP : va_P g.1 vwCl (zm_ws g h ad M12) H := hP
                                  have hD : va_D A (zm_ws g h ad M12) := hD
                                  subst hM12
                                  subst hv_581
                                  subst hv_548
                                  subst hr10
                                  subst hv_22
                                  subst hr1
                                  exact zm_rv hQ hx hb hr hlocks hK hP hD hS (by simp [zm_numeral, zq_upd, c_29, eq_true c_124, c_230, eq_true c_335, c_396, eq_true c_439, c_447, c_455, c_463, c_471, eq_true c_484, eq_true c_514, c_522]) dX10_numeral_584
                                refine lv_aload_n hx hb dX10_numeral_552 rfl (lv_at hl 2 rfl) ?_
                                refine va_get (ci := 9) (v := .int (M.1 21)) hx hb hts iX10 hown hK hP 0 rfl rfl 21 (by decide) (hts _ w_832) (fun _ h9 => h9) rfl dX10_numeral_553 ?_
                                refine lv_iconst (v := 2) hx hb dX10_numeral_556 (by decide) ?_
                                refine lv_icmp_eq (tgt := 576) hx hb dX10_numeral_557 (by decide) (fun c_557 => ?_) (fun c_557 => ?_)
                                · exact absurd c_557 c_230
                                · refine lv_aload_n hx hb dX10_numeral_560 rfl (lv_at hl 2 rfl) ?_
                                  refine va_get (ci := 9) (v := .int (M.1 21)) hx hb hts iX10 hown hK hP 0 rfl rfl 21 (by decide) (hts _ w_832) (fun _ h9 => h9) rfl dX10_numeral_561 ?_
                                  refine lv_iconst (v := 3) hx hb dX10_numeral_564 (by decide) ?_
                                  refine lv_icmp_eq (tgt := 576) hx hb dX10_numeral_565 (by decide) (fun c_565 => ?_) (fun c_565 => ?_)
                                  · exact absurd c_565 c_455
                                  · refine lv_aload_n hx hb dX10_numeral_568 rfl (lv_at hl 2 rfl) ?_
                                    refine va_get (ci := 9) (v := .int (M.1 21)) hx hb hts iX10 hown hK hP 0 rfl rfl 21 (by decide) (hts _ w_832) (fun _ h9 => h9) rfl dX10_numeral_569 ?_
                                    refine lv_iconst (v := 5) hx hb dX10_numeral_572 (by decide) ?_
                                    refine lv_icmp_ne (tgt := 580) hx hb dX10_numeral_573 (by decide) (fun c_573 => ?_) (fun c_573 => ?_)
                                    · refine lv_iconst (v := 0) hx hb dX10_numeral_580 (by decide) ?_
                                      exact J_581 0 (by simp [zr_st5, c_29, eq_true c_124, c_230, eq_true c_335, c_396, eq_true c_439, c_447, c_455, c_463, c_471, eq_true c_484, eq_true c_514, c_522, c_557, c_565, c_573, hr1, hr10])
                                    · exact absurd c_573 c_471
                              refine lv_aload_n hx hb dX10_numeral_533 rfl (lv_at hl 2 rfl) ?_
                              refine va_get (ci := 9) (v := .int (M.1 21)) hx hb hts iX10 hown hK hP 0 rfl rfl 21 (by decide) (hts _ w_832) (fun _ h9 => h9) rfl dX10_numeral_534 ?_
                              refine lv_iconst (v := 3) hx hb dX10_numeral_537 (by decide) ?_
                              refine lv_icmp_ne (tgt := 546) hx hb dX10_numeral_538 (by decide) (fun c_538 => ?_) (fun c_538 => ?_)
                              · refine lv_bipush (v := 10) hx hb dX10_numeral_546 (by decide) ?_
                                exact J_548 10 (by simp [zr_st4, c_29, eq_true c_124, c_230, eq_true c_335, c_396, eq_true c_439, c_447, c_455, c_463, c_471, eq_true c_484, eq_true c_514, c_522, c_538, hr1, hr10])
                              · exact absurd c_538 c_455
                            · exact absurd c_522 c_463
                        · refine lv_aload_n hx hb dX10_numeral_487 rfl (lv_at hl 2 rfl) ?_
                          refine va_get (ci := 9) (v := .int (M.1 21)) hx hb hts iX10 hown hK hP 0 rfl rfl 21 (by decide) (hts _ w_832) (fun _ h9 => h9) rfl dX10_numeral_488 ?_
                          refine lv_bipush (v := 10) hx hb dX10_numeral_491 (by decide) ?_
                          refine lv_icmp_eq (tgt := 510) hx hb dX10_numeral_493 (by decide) (fun c_493 => ?_) (fun c_493 => ?_)
                          · refine lv_iload_n hx hb dX10_numeral_510 rfl (lv_at hl 3 rfl) ?_
                            refine za_ci (wc := []) (wr := zm_ws g h ad M) C hP hD hS [] [0, 1, 2, 3, 4, 5, 6, 7, 8, 9, 10, 11, 12, 13, 14, 15, 16, 17] rfl rfl (by decide) (by decide) (za_runS C hP hD hS [] rfl (by decide) rfl (kX10_letter l g E  x ) w_993 mX10_letter rfl hl.1 rfl (Nat.le_of_ble_eq_true rfl) dX10_numeral_511 ⟨by decide, by decide⟩ ⟨by decide, by decide⟩) (fun r13 _ H locs hr13 hP hD hS => ?_)
                            have hP : va_P g.1 vwCl (zm_ws g h ad M) H := hP
                            have hD : va_D A (zm_ws g h ad M) := hD
                            refine lv_if_ne (tgt := 525) hx hb dX10_numeral_514 (by decide) (fun c_514 => ?_) (fun c_514 => ?_)
                            · refine lv_aload_n hx hb dX10_numeral_525 rfl (lv_at hl 2 rfl) ?_
                              refine za_cv (wc := zm_ws g h ad M) (wr := []) C hP hD hS [0, 1, 2, 3, 4, 5, 6, 7, 8, 9, 10, 11, 12, 13, 14, 15, 16, 17] [] rfl rfl (by decide) (by decide) (za_runV C hP hD hS [0, 1, 2, 3, 4, 5, 6, 7, 8, 9, 10, 11, 12, 13, 14, 15, 16, 17] rfl (by decide) rfl (kX10_error l g E h ad M  ) w_1010 mX10_error 0 rfl rfl rfl rfl hl.1 rfl (Nat.le_of_ble_eq_true rfl) dX10_numeral_526 ⟨by decide, by decide⟩ ⟨by decide, by decide⟩) (fun M14 H locs hM14 hP hD hS => ?_)
                              have hP : va_P g.1 vwCl (zm_ws g h ad M14) H := hP
                              have hD : va_D A (zm_ws g h ad M14) := hD
                              refine lv_goto (tgt := 584) hx hb dX10_numeral_529 (by decide) ?_
                              subst hM14
                              subst hr13
                              subst hv_22
                              subst hr1
                              exact zm_rv hQ hx hb hr hlocks hK hP hD hS (by simp [zm_numeral, zq_upd, c_29, eq_true c_124, c_230, eq_true c_335, c_396, eq_true c_439, c_447, c_455, c_463, c_471, c_484, eq_true c_493, c_514]) dX10_numeral_584
                            · refine lv_aload_n hx hb dX10_numeral_517 rfl (lv_at hl 2 rfl) ?_
                              refine va_get (ci := 9) (v := .int (M.1 21)) hx hb hts iX10 hown hK hP 0 rfl rfl 21 (by decide) (hts _ w_832) (fun _ h9 => h9) rfl dX10_numeral_518 ?_
                              refine lv_iconst (v := 4) hx hb dX10_numeral_521 (by decide) ?_
                              refine lv_icmp_ne (tgt := 532) hx hb dX10_numeral_522 (by decide) (fun c_522 => ?_) (fun c_522 => ?_)
                              · refine lv_aload_n hx hb dX10_numeral_532 rfl (lv_at hl 2 rfl) ?_
                                have J_548 : ∀ v9 : Int32, v9 = (zr_st4 (M.1 21)) → W p l e (za_R 7 0 0) s m args below meth co H locs 0 0 Q (F0 m 548 ls (.int v9 :: [.ref h])) := by
                                  intro v_548 hv_548
                                  refine va_put (ci := 9) (fs := zm_fs ad M.1) (v := .int v_548) hx hb hts iX10 tyX10 tyX10_ok nmX10 hown hK hP hD hS 0 rfl rfl 22 (by decide) (hts _ w_833) (fun _ h9 => h9) rfl (tyX10_ok 22 (by decide)) rfl rfl (Nat.le_of_ble_eq_true rfl) dX10_numeral_548 (fun H locs hP hD hS => ?_)
                                  have hP := zm_pf22 (X := M) hP
                                  have hD := zm_df22 (X := M) hD
                                  refine lv_aload_n hx hb dX10_numeral_551 rfl (lv_at hl 2 rfl) ?_
                                  have J_581 : ∀ v9 : Int32, v9 = (zr_st5 (M.1 21)) → W p l e (za_R 7 0 0) s m args below meth co H locs 0 0 Q (F0 m 581 ls (.int v9 :: [.ref h])) := by
                                    intro v_581 hv_581
                                    refine za_cv (wc := zm_ws g h ad (zm_s M 22 v_548)) (wr := []) C hP hD hS [0, 1, 2, 3, 4, 5, 6, 7, 8, 9, 10, 11, 12, 13, 14, 15, 16, 17] [] rfl rfl (by decide) (by decide) (za_runV C hP hD hS [0, 1, 2, 3, 4, 5, 6, 7, 8, 9, 10, 11, 12, 13, 14, 15, 16, 17] rfl (by decide) rfl (kX10_ends l g E h ad (zm_s M 22 v_548) v_581 hT hB) w_1042 mX10_ends 0 rfl rfl rfl rfl hl.1 rfl (Nat.le_of_ble_eq_true rfl) dX10_numeral_581 ⟨by decide, by decide⟩ ⟨by decide, by decide⟩) (fun M15 H locs hM15 hP hD hS => ?_)
                                    have hP : va_P g.1 vwCl (zm_ws g h ad M15) H := hP
                                    have hD : va_D A (zm_ws g h ad M15) := hD
                                    subst hM15
                                    subst hv_581
                                    subst hv_548
                                    subst hr13
                                    subst hv_22
                                    subst hr1
                                    exact zm_rv hQ hx hb hr hlocks hK hP hD hS (by simp [zm_numeral, zq_upd, c_29, eq_true c_124, c_230, eq_true c_335, c_396, eq_true c_439, c_447, c_455, c_463, c_471, c_484, eq_true c_493, eq_true c_514, c_522]) dX10_numeral_584
                                  refine lv_aload_n hx hb dX10_numeral_552 rfl (lv_at hl 2 rfl) ?_
                                  refine va_get (ci := 9) (v := .int (M.1 21)) hx hb hts iX10 hown hK hP 0 rfl rfl 21 (by decide) (hts _ w_832) (fun _ h9 => h9) rfl dX10_numeral_553 ?_
                                  refine lv_iconst (v := 2) hx hb dX10_numeral_556 (by decide) ?_
                                  refine lv_icmp_eq (tgt := 576) hx hb dX10_numeral_557 (by decide) (fun c_557 => ?_) (fun c_557 => ?_)
                                  · exact absurd c_557 c_230
                                  · refine lv_aload_n hx hb dX10_numeral_560 rfl (lv_at hl 2 rfl) ?_
                                    refine va_get (ci := 9) (v := .int (M.1 21)) hx hb hts iX10 hown hK hP 0 rfl rfl 21 (by decide) (hts _ w_832) (fun _ h9 => h9) rfl dX10_numeral_561 ?_
                                    refine lv_iconst (v := 3) hx hb dX10_numeral_564 (by decide) ?_
                                    refine lv_icmp_eq (tgt := 576) hx hb dX10_numeral_565 (by decide) (fun c_565 => ?_) (fun c_565 => ?_)
                                    · exact absurd c_565 c_455
                                    · refine lv_aload_n hx hb dX10_numeral_568 rfl (lv_at hl 2 rfl) ?_
                                      refine va_get (ci := 9) (v := .int (M.1 21)) hx hb hts iX10 hown hK hP 0 rfl rfl 21 (by decide) (hts _ w_832) (fun _ h9 => h9) rfl dX10_numeral_569 ?_
                                      refine lv_iconst (v := 5) hx hb dX10_numeral_572 (by decide) ?_
                                      refine lv_icmp_ne (tgt := 580) hx hb dX10_numeral_573 (by decide) (fun c_573 => ?_) (fun c_573 => ?_)
                                      · refine lv_iconst (v := 0) hx hb dX10_numeral_580 (by decide) ?_
                                        exact J_581 0 (by simp [zr_st5, c_29, eq_true c_124, c_230, eq_true c_335, c_396, eq_true c_439, c_447, c_455, c_463, c_471, c_484, eq_true c_493, eq_true c_514, c_522, c_557, c_565, c_573, hr1, hr13])
                                      · exact absurd c_573 c_471
                                refine lv_aload_n hx hb dX10_numeral_533 rfl (lv_at hl 2 rfl) ?_
                                refine va_get (ci := 9) (v := .int (M.1 21)) hx hb hts iX10 hown hK hP 0 rfl rfl 21 (by decide) (hts _ w_832) (fun _ h9 => h9) rfl dX10_numeral_534 ?_
                                refine lv_iconst (v := 3) hx hb dX10_numeral_537 (by decide) ?_
                                refine lv_icmp_ne (tgt := 546) hx hb dX10_numeral_538 (by decide) (fun c_538 => ?_) (fun c_538 => ?_)
                                · refine lv_bipush (v := 10) hx hb dX10_numeral_546 (by decide) ?_
                                  exact J_548 10 (by simp [zr_st4, c_29, eq_true c_124, c_230, eq_true c_335, c_396, eq_true c_439, c_447, c_455, c_463, c_471, c_484, eq_true c_493, eq_true c_514, c_522, c_538, hr1, hr13])
                                · exact absurd c_538 c_455
                              · exact absurd c_522 c_463
                          · refine lv_aload_n hx hb dX10_numeral_496 rfl (lv_at hl 2 rfl) ?_
                            refine lv_bipush (v := 8) hx hb dX10_numeral_497 (by decide) ?_
                            refine va_put (ci := 9) (fs := zm_fs ad M.1) (v := .int 8) hx hb hts iX10 tyX10 tyX10_ok nmX10 hown hK hP hD hS 0 rfl rfl 21 (by decide) (hts _ w_832) (fun _ h9 => h9) rfl (tyX10_ok 21 (by decide)) rfl rfl (Nat.le_of_ble_eq_true rfl) dX10_numeral_499 (fun H locs hP hD hS => ?_)
                            have hP := zm_pf21 (X := M) hP
                            have hD := zm_df21 (X := M) hD
                            refine lv_aload_n hx hb dX10_numeral_502 rfl (lv_at hl 2 rfl) ?_
                            refine lv_iconst (v := 1) hx hb dX10_numeral_503 (by decide) ?_
                            refine va_put (ci := 9) (fs := zm_fs ad (zm_s M 21 8).1) (v := .int 1) hx hb hts iX10 tyX10 tyX10_ok nmX10 hown hK hP hD hS 0 rfl rfl 26 (by decide) (hts _ w_837) (fun _ h9 => h9) rfl (tyX10_ok 26 (by decide)) rfl rfl (Nat.le_of_ble_eq_true rfl) dX10_numeral_504 (fun H locs hP hD hS => ?_)
                            have hP := zm_pf26 (X := zm_s M 21 8) hP
                            have hD := zm_df26 (X := zm_s M 21 8) hD
                            refine lv_goto (tgt := 584) hx hb dX10_numeral_507 (by decide) ?_
                            subst hv_22
                            subst hr1
                            exact zm_rv hQ hx hb hr hlocks hK hP hD hS (by simp [zm_numeral, zq_upd, c_29, eq_true c_124, c_230, eq_true c_335, c_396, eq_true c_439, c_447, c_455, c_463, c_471, c_484, c_493]) dX10_numeral_584
                      · refine lv_aload_n hx hb dX10_numeral_474 rfl (lv_at hl 2 rfl) ?_
                        refine lv_bipush (v := 6) hx hb dX10_numeral_475 (by decide) ?_
                        refine va_put (ci := 9) (fs := zm_fs ad M.1) (v := .int 6) hx hb hts iX10 tyX10 tyX10_ok nmX10 hown hK hP hD hS 0 rfl rfl 21 (by decide) (hts _ w_832) (fun _ h9 => h9) rfl (tyX10_ok 21 (by decide)) rfl rfl (Nat.le_of_ble_eq_true rfl) dX10_numeral_477 (fun H locs hP hD hS => ?_)
                        have hP := zm_pf21 (X := M) hP
                        have hD := zm_df21 (X := M) hD
                        refine lv_goto (tgt := 584) hx hb dX10_numeral_480 (by decide) ?_
                        subst hv_22
                        subst hr1
                        exact zm_rv hQ hx hb hr hlocks hK hP hD hS (by simp [zm_numeral, zq_upd, c_29, eq_true c_124, c_230, eq_true c_335, c_396, eq_true c_439, c_447, c_455, c_463, eq_true c_471]) dX10_numeral_584
            · refine lv_aload_n hx hb dX10_numeral_399 rfl (lv_at hl 2 rfl) ?_
              refine va_get (ci := 9) (v := .int (M.1 21)) hx hb hts iX10 hown hK hP 0 rfl rfl 21 (by decide) (hts _ w_832) (fun _ h9 => h9) rfl dX10_numeral_400 ?_
              refine lv_bipush (v := 6) hx hb dX10_numeral_403 (by decide) ?_
              refine lv_icmp_eq (tgt := 436) hx hb dX10_numeral_405 (by decide) (fun c_405 => ?_) (fun c_405 => ?_)
              · refine lv_iload_n hx hb dX10_numeral_436 rfl (lv_at hl 3 rfl) ?_
                refine lv_bipush (v := 46) hx hb dX10_numeral_437 (by decide) ?_
                refine lv_icmp_ne (tgt := 483) hx hb dX10_numeral_439 (by decide) (fun c_439 => ?_) (fun c_439 => ?_)
                · refine lv_iload_n hx hb dX10_numeral_483 rfl (lv_at hl 0 rfl) ?_
                  refine lv_if_eq (tgt := 510) hx hb dX10_numeral_484 (by decide) (fun c_484 => ?_) (fun c_484 => ?_)
                  · refine lv_iload_n hx hb dX10_numeral_510 rfl (lv_at hl 3 rfl) ?_
                    refine za_ci (wc := []) (wr := zm_ws g h ad M) C hP hD hS [] [0, 1, 2, 3, 4, 5, 6, 7, 8, 9, 10, 11, 12, 13, 14, 15, 16, 17] rfl rfl (by decide) (by decide) (za_runS C hP hD hS [] rfl (by decide) rfl (kX10_letter l g E  x ) w_993 mX10_letter rfl hl.1 rfl (Nat.le_of_ble_eq_true rfl) dX10_numeral_511 ⟨by decide, by decide⟩ ⟨by decide, by decide⟩) (fun r16 _ H locs hr16 hP hD hS => ?_)
                    have hP : va_P g.1 vwCl (zm_ws g h ad M) H := hP
                    have hD : va_D A (zm_ws g h ad M) := hD
                    refine lv_if_ne (tgt := 525) hx hb dX10_numeral_514 (by decide) (fun c_514 => ?_) (fun c_514 => ?_)
                    · refine lv_aload_n hx hb dX10_numeral_525 rfl (lv_at hl 2 rfl) ?_
                      refine za_cv (wc := zm_ws g h ad M) (wr := []) C hP hD hS [0, 1, 2, 3, 4, 5, 6, 7, 8, 9, 10, 11, 12, 13, 14, 15, 16, 17] [] rfl rfl (by decide) (by decide) (za_runV C hP hD hS [0, 1, 2, 3, 4, 5, 6, 7, 8, 9, 10, 11, 12, 13, 14, 15, 16, 17] rfl (by decide) rfl (kX10_error l g E h ad M  ) w_1010 mX10_error 0 rfl rfl rfl rfl hl.1 rfl (Nat.le_of_ble_eq_true rfl) dX10_numeral_526 ⟨by decide, by decide⟩ ⟨by decide, by decide⟩) (fun M17 H locs hM17 hP hD hS => ?_)
                      have hP : va_P g.1 vwCl (zm_ws g h ad M17) H := hP
                      have hD : va_D A (zm_ws g h ad M17) := hD
                      refine lv_goto (tgt := 584) hx hb dX10_numeral_529 (by decide) ?_
                      subst hM17
                      subst hr16
                      subst hv_22
                      subst hr1
                      exact zm_rv hQ hx hb hr hlocks hK hP hD hS (by simp [zm_numeral, zq_upd, c_29, eq_true c_124, c_230, eq_true c_335, eq_true c_396, eq_true c_405, c_439, eq_true c_484, c_514]) dX10_numeral_584
                    · refine lv_aload_n hx hb dX10_numeral_517 rfl (lv_at hl 2 rfl) ?_
                      refine va_get (ci := 9) (v := .int (M.1 21)) hx hb hts iX10 hown hK hP 0 rfl rfl 21 (by decide) (hts _ w_832) (fun _ h9 => h9) rfl dX10_numeral_518 ?_
                      refine lv_iconst (v := 4) hx hb dX10_numeral_521 (by decide) ?_
                      refine lv_icmp_ne (tgt := 532) hx hb dX10_numeral_522 (by decide) (fun c_522 => ?_) (fun c_522 => ?_)
                      · refine lv_aload_n hx hb dX10_numeral_532 rfl (lv_at hl 2 rfl) ?_
                        have J_548 : ∀ v9 : Int32, v9 = (zr_st4 (M.1 21)) → W p l e (za_R 7 0 0) s m args below meth co H locs 0 0 Q (F0 m 548 ls (.int v9 :: [.ref h])) := by
                          intro v_548 hv_548
                          refine va_put (ci := 9) (fs := zm_fs ad M.1) (v := .int v_548) hx hb hts iX10 tyX10 tyX10_ok nmX10 hown hK hP hD hS 0 rfl rfl 22 (by decide) (hts _ w_833) (fun _ h9 => h9) rfl (tyX10_ok 22 (by decide)) rfl rfl (Nat.le_of_ble_eq_true rfl) dX10_numeral_548 (fun H locs hP hD hS => ?_)
                          have hP := zm_pf22 (X := M) hP
                          have hD := zm_df22 (X := M) hD
                          refine lv_aload_n hx hb dX10_numeral_551 rfl (lv_at hl 2 rfl) ?_
                          have J_581 : ∀ v9 : Int32, v9 = (zr_st5 (M.1 21)) → W p l e (za_R 7 0 0) s m args below meth co H locs 0 0 Q (F0 m 581 ls (.int v9 :: [.ref h])) := by
                            intro v_581 hv_581
                            refine za_cv (wc := zm_ws g h ad (zm_s M 22 v_548)) (wr := []) C hP hD hS [0, 1, 2, 3, 4, 5, 6, 7, 8, 9, 10, 11, 12, 13, 14, 15, 16, 17] [] rfl rfl (by decide) (by decide) (za_runV C hP hD hS [0, 1, 2, 3, 4, 5, 6, 7, 8, 9, 10, 11, 12, 13, 14, 15, 16, 17] rfl (by decide) rfl (kX10_ends l g E h ad (zm_s M 22 v_548) v_581 hT hB) w_1042 mX10_ends 0 rfl rfl rfl rfl hl.1 rfl (Nat.le_of_ble_eq_true rfl) dX10_numeral_581 ⟨by decide, by decide⟩ ⟨by decide, by decide⟩) (fun M18 H locs hM18 hP hD hS => ?_)
                            have hP : va_P g.1 vwCl (zm_ws g h ad M18) H := hP
                            have hD : va_D A (zm_ws g h ad M18) := hD
                            subst hM18
                            subst hv_581
                            subst hv_548
                            subst hr16
                            subst hv_22
                            subst hr1
                            exact zm_rv hQ hx hb hr hlocks hK hP hD hS (by simp [zm_numeral, zq_upd, c_29, eq_true c_124, c_230, eq_true c_335, eq_true c_396, eq_true c_405, c_439, eq_true c_484, eq_true c_514, c_522]) dX10_numeral_584
                          refine lv_aload_n hx hb dX10_numeral_552 rfl (lv_at hl 2 rfl) ?_
                          refine va_get (ci := 9) (v := .int (M.1 21)) hx hb hts iX10 hown hK hP 0 rfl rfl 21 (by decide) (hts _ w_832) (fun _ h9 => h9) rfl dX10_numeral_553 ?_
                          refine lv_iconst (v := 2) hx hb dX10_numeral_556 (by decide) ?_
                          refine lv_icmp_eq (tgt := 576) hx hb dX10_numeral_557 (by decide) (fun c_557 => ?_) (fun c_557 => ?_)
                          · exact absurd c_557 c_230
                          · refine lv_aload_n hx hb dX10_numeral_560 rfl (lv_at hl 2 rfl) ?_
                            refine va_get (ci := 9) (v := .int (M.1 21)) hx hb hts iX10 hown hK hP 0 rfl rfl 21 (by decide) (hts _ w_832) (fun _ h9 => h9) rfl dX10_numeral_561 ?_
                            refine lv_iconst (v := 3) hx hb dX10_numeral_564 (by decide) ?_
                            refine lv_icmp_eq (tgt := 576) hx hb dX10_numeral_565 (by decide) (fun c_565 => ?_) (fun c_565 => ?_)
                            · refine lv_iconst (v := 1) hx hb dX10_numeral_576 (by decide) ?_
                              refine lv_goto (tgt := 581) hx hb dX10_numeral_577 (by decide) ?_
                              exact J_581 1 (by simp [zr_st5, c_29, eq_true c_124, c_230, eq_true c_335, eq_true c_396, eq_true c_405, c_439, eq_true c_484, eq_true c_514, c_522, c_557, eq_true c_565, hr1, hr16])
                            · refine lv_aload_n hx hb dX10_numeral_568 rfl (lv_at hl 2 rfl) ?_
                              refine va_get (ci := 9) (v := .int (M.1 21)) hx hb hts iX10 hown hK hP 0 rfl rfl 21 (by decide) (hts _ w_832) (fun _ h9 => h9) rfl dX10_numeral_569 ?_
                              refine lv_iconst (v := 5) hx hb dX10_numeral_572 (by decide) ?_
                              refine lv_icmp_ne (tgt := 580) hx hb dX10_numeral_573 (by decide) (fun c_573 => ?_) (fun c_573 => ?_)
                              · refine lv_iconst (v := 0) hx hb dX10_numeral_580 (by decide) ?_
                                exact J_581 0 (by simp [zr_st5, c_29, eq_true c_124, c_230, eq_true c_335, eq_true c_396, eq_true c_405, c_439, eq_true c_484, eq_true c_514, c_522, c_557, c_565, c_573, hr1, hr16])
                              · refine lv_iconst (v := 1) hx hb dX10_numeral_576 (by decide) ?_
                                refine lv_goto (tgt := 581) hx hb dX10_numeral_577 (by decide) ?_
                                exact J_581 1 (by simp [zr_st5, c_29, eq_true c_124, c_230, eq_true c_335, eq_true c_396, eq_true c_405, c_439, eq_true c_484, eq_true c_514, c_522, c_557, c_565, eq_true c_573, hr1, hr16])
                        refine lv_aload_n hx hb dX10_numeral_533 rfl (lv_at hl 2 rfl) ?_
                        refine va_get (ci := 9) (v := .int (M.1 21)) hx hb hts iX10 hown hK hP 0 rfl rfl 21 (by decide) (hts _ w_832) (fun _ h9 => h9) rfl dX10_numeral_534 ?_
                        refine lv_iconst (v := 3) hx hb dX10_numeral_537 (by decide) ?_
                        refine lv_icmp_ne (tgt := 546) hx hb dX10_numeral_538 (by decide) (fun c_538 => ?_) (fun c_538 => ?_)
                        · refine lv_bipush (v := 10) hx hb dX10_numeral_546 (by decide) ?_
                          exact J_548 10 (by simp [zr_st4, c_29, eq_true c_124, c_230, eq_true c_335, eq_true c_396, eq_true c_405, c_439, eq_true c_484, eq_true c_514, c_522, c_538, hr1, hr16])
                        · refine lv_bipush (v := 8) hx hb dX10_numeral_541 (by decide) ?_
                          refine lv_goto (tgt := 548) hx hb dX10_numeral_543 (by decide) ?_
                          exact J_548 8 (by simp [zr_st4, c_29, eq_true c_124, c_230, eq_true c_335, eq_true c_396, eq_true c_405, c_439, eq_true c_484, eq_true c_514, c_522, eq_true c_538, hr1, hr16])
                      · refine lv_aload_n hx hb dX10_numeral_525 rfl (lv_at hl 2 rfl) ?_
                        refine za_cv (wc := zm_ws g h ad M) (wr := []) C hP hD hS [0, 1, 2, 3, 4, 5, 6, 7, 8, 9, 10, 11, 12, 13, 14, 15, 16, 17] [] rfl rfl (by decide) (by decide) (za_runV C hP hD hS [0, 1, 2, 3, 4, 5, 6, 7, 8, 9, 10, 11, 12, 13, 14, 15, 16, 17] rfl (by decide) rfl (kX10_error l g E h ad M  ) w_1010 mX10_error 0 rfl rfl rfl rfl hl.1 rfl (Nat.le_of_ble_eq_true rfl) dX10_numeral_526 ⟨by decide, by decide⟩ ⟨by decide, by decide⟩) (fun M19 H locs hM19 hP hD hS => ?_)
                        have hP : va_P g.1 vwCl (zm_ws g h ad M19) H := hP
                        have hD : va_D A (zm_ws g h ad M19) := hD
                        refine lv_goto (tgt := 584) hx hb dX10_numeral_529 (by decide) ?_
                        subst hM19
                        subst hr16
                        subst hv_22
                        subst hr1
                        exact zm_rv hQ hx hb hr hlocks hK hP hD hS (by simp [zm_numeral, zq_upd, c_29, eq_true c_124, c_230, eq_true c_335, eq_true c_396, eq_true c_405, c_439, eq_true c_484, eq_true c_514, eq_true c_522]) dX10_numeral_584
                  · refine lv_aload_n hx hb dX10_numeral_487 rfl (lv_at hl 2 rfl) ?_
                    refine va_get (ci := 9) (v := .int (M.1 21)) hx hb hts iX10 hown hK hP 0 rfl rfl 21 (by decide) (hts _ w_832) (fun _ h9 => h9) rfl dX10_numeral_488 ?_
                    refine lv_bipush (v := 10) hx hb dX10_numeral_491 (by decide) ?_
                    refine lv_icmp_eq (tgt := 510) hx hb dX10_numeral_493 (by decide) (fun c_493 => ?_) (fun c_493 => ?_)
                    · refine lv_iload_n hx hb dX10_numeral_510 rfl (lv_at hl 3 rfl) ?_
                      refine za_ci (wc := []) (wr := zm_ws g h ad M) C hP hD hS [] [0, 1, 2, 3, 4, 5, 6, 7, 8, 9, 10, 11, 12, 13, 14, 15, 16, 17] rfl rfl (by decide) (by decide) (za_runS C hP hD hS [] rfl (by decide) rfl (kX10_letter l g E  x ) w_993 mX10_letter rfl hl.1 rfl (Nat.le_of_ble_eq_true rfl) dX10_numeral_511 ⟨by decide, by decide⟩ ⟨by decide, by decide⟩) (fun r20 _ H locs hr20 hP hD hS => ?_)
                      have hP : va_P g.1 vwCl (zm_ws g h ad M) H := hP
                      have hD : va_D A (zm_ws g h ad M) := hD
                      refine lv_if_ne (tgt := 525) hx hb dX10_numeral_514 (by decide) (fun c_514 => ?_) (fun c_514 => ?_)
                      · refine lv_aload_n hx hb dX10_numeral_525 rfl (lv_at hl 2 rfl) ?_
                        refine za_cv (wc := zm_ws g h ad M) (wr := []) C hP hD hS [0, 1, 2, 3, 4, 5, 6, 7, 8, 9, 10, 11, 12, 13, 14, 15, 16, 17] [] rfl rfl (by decide) (by decide) (za_runV C hP hD hS [0, 1, 2, 3, 4, 5, 6, 7, 8, 9, 10, 11, 12, 13, 14, 15, 16, 17] rfl (by decide) rfl (kX10_error l g E h ad M  ) w_1010 mX10_error 0 rfl rfl rfl rfl hl.1 rfl (Nat.le_of_ble_eq_true rfl) dX10_numeral_526 ⟨by decide, by decide⟩ ⟨by decide, by decide⟩) (fun M21 H locs hM21 hP hD hS => ?_)
                        have hP : va_P g.1 vwCl (zm_ws g h ad M21) H := hP
                        have hD : va_D A (zm_ws g h ad M21) := hD
                        refine lv_goto (tgt := 584) hx hb dX10_numeral_529 (by decide) ?_
                        subst hM21
                        subst hr20
                        subst hv_22
                        subst hr1
                        exact zm_rv hQ hx hb hr hlocks hK hP hD hS (by simp [zm_numeral, zq_upd, c_29, eq_true c_124, c_230, eq_true c_335, eq_true c_396, eq_true c_405, c_439, c_484, eq_true c_493, c_514]) dX10_numeral_584
                      · refine lv_aload_n hx hb dX10_numeral_517 rfl (lv_at hl 2 rfl) ?_
                        refine va_get (ci := 9) (v := .int (M.1 21)) hx hb hts iX10 hown hK hP 0 rfl rfl 21 (by decide) (hts _ w_832) (fun _ h9 => h9) rfl dX10_numeral_518 ?_
                        refine lv_iconst (v := 4) hx hb dX10_numeral_521 (by decide) ?_
                        refine lv_icmp_ne (tgt := 532) hx hb dX10_numeral_522 (by decide) (fun c_522 => ?_) (fun c_522 => ?_)
                        · refine lv_aload_n hx hb dX10_numeral_532 rfl (lv_at hl 2 rfl) ?_
                          have J_548 : ∀ v9 : Int32, v9 = (zr_st4 (M.1 21)) → W p l e (za_R 7 0 0) s m args below meth co H locs 0 0 Q (F0 m 548 ls (.int v9 :: [.ref h])) := by
                            intro v_548 hv_548
                            refine va_put (ci := 9) (fs := zm_fs ad M.1) (v := .int v_548) hx hb hts iX10 tyX10 tyX10_ok nmX10 hown hK hP hD hS 0 rfl rfl 22 (by decide) (hts _ w_833) (fun _ h9 => h9) rfl (tyX10_ok 22 (by decide)) rfl rfl (Nat.le_of_ble_eq_true rfl) dX10_numeral_548 (fun H locs hP hD hS => ?_)
                            have hP := zm_pf22 (X := M) hP
                            have hD := zm_df22 (X := M) hD
                            refine lv_aload_n hx hb dX10_numeral_551 rfl (lv_at hl 2 rfl) ?_
                            have J_581 : ∀ v9 : Int32, v9 = (zr_st5 (M.1 21)) → W p l e (za_R 7 0 0) s m args below meth co H locs 0 0 Q (F0 m 581 ls (.int v9 :: [.ref h])) := by
                              intro v_581 hv_581
                              refine za_cv (wc := zm_ws g h ad (zm_s M 22 v_548)) (wr := []) C hP hD hS [0, 1, 2, 3, 4, 5, 6, 7, 8, 9, 10, 11, 12, 13, 14, 15, 16, 17] [] rfl rfl (by decide) (by decide) (za_runV C hP hD hS [0, 1, 2, 3, 4, 5, 6, 7, 8, 9, 10, 11, 12, 13, 14, 15, 16, 17] rfl (by decide) rfl (kX10_ends l g E h ad (zm_s M 22 v_548) v_581 hT hB) w_1042 mX10_ends 0 rfl rfl rfl rfl hl.1 rfl (Nat.le_of_ble_eq_true rfl) dX10_numeral_581 ⟨by decide, by decide⟩ ⟨by decide, by decide⟩) (fun M22 H locs hM22 hP hD hS => ?_)
                              have hP : va_P g.1 vwCl (zm_ws g h ad M22) H := hP
                              have hD : va_D A (zm_ws g h ad M22) := hD
                              subst hM22
                              subst hv_581
                              subst hv_548
                              subst hr20
                              subst hv_22
                              subst hr1
                              exact zm_rv hQ hx hb hr hlocks hK hP hD hS (by simp [zm_numeral, zq_upd, c_29, eq_true c_124, c_230, eq_true c_335, eq_true c_396, eq_true c_405, c_439, c_484, eq_true c_493, eq_true c_514, c_522]) dX10_numeral_584
                            refine lv_aload_n hx hb dX10_numeral_552 rfl (lv_at hl 2 rfl) ?_
                            refine va_get (ci := 9) (v := .int (M.1 21)) hx hb hts iX10 hown hK hP 0 rfl rfl 21 (by decide) (hts _ w_832) (fun _ h9 => h9) rfl dX10_numeral_553 ?_
                            refine lv_iconst (v := 2) hx hb dX10_numeral_556 (by decide) ?_
                            refine lv_icmp_eq (tgt := 576) hx hb dX10_numeral_557 (by decide) (fun c_557 => ?_) (fun c_557 => ?_)
                            · exact absurd c_557 c_230
                            · refine lv_aload_n hx hb dX10_numeral_560 rfl (lv_at hl 2 rfl) ?_
                              refine va_get (ci := 9) (v := .int (M.1 21)) hx hb hts iX10 hown hK hP 0 rfl rfl 21 (by decide) (hts _ w_832) (fun _ h9 => h9) rfl dX10_numeral_561 ?_
                              refine lv_iconst (v := 3) hx hb dX10_numeral_564 (by decide) ?_
                              refine lv_icmp_eq (tgt := 576) hx hb dX10_numeral_565 (by decide) (fun c_565 => ?_) (fun c_565 => ?_)
                              · refine lv_iconst (v := 1) hx hb dX10_numeral_576 (by decide) ?_
                                refine lv_goto (tgt := 581) hx hb dX10_numeral_577 (by decide) ?_
                                exact J_581 1 (by simp [zr_st5, c_29, eq_true c_124, c_230, eq_true c_335, eq_true c_396, eq_true c_405, c_439, c_484, eq_true c_493, eq_true c_514, c_522, c_557, eq_true c_565, hr1, hr20])
                              · refine lv_aload_n hx hb dX10_numeral_568 rfl (lv_at hl 2 rfl) ?_
                                refine va_get (ci := 9) (v := .int (M.1 21)) hx hb hts iX10 hown hK hP 0 rfl rfl 21 (by decide) (hts _ w_832) (fun _ h9 => h9) rfl dX10_numeral_569 ?_
                                refine lv_iconst (v := 5) hx hb dX10_numeral_572 (by decide) ?_
                                refine lv_icmp_ne (tgt := 580) hx hb dX10_numeral_573 (by decide) (fun c_573 => ?_) (fun c_573 => ?_)
                                · refine lv_iconst (v := 0) hx hb dX10_numeral_580 (by decide) ?_
                                  exact J_581 0 (by simp [zr_st5, c_29, eq_true c_124, c_230, eq_true c_335, eq_true c_396, eq_true c_405, c_439, c_484, eq_true c_493, eq_true c_514, c_522, c_557, c_565, c_573, hr1, hr20])
                                · refine lv_iconst (v := 1) hx hb dX10_numeral_576 (by decide) ?_
                                  refine lv_goto (tgt := 581) hx hb dX10_numeral_577 (by decide) ?_
                                  exact J_581 1 (by simp [zr_st5, c_29, eq_true c_124, c_230, eq_true c_335, eq_true c_396, eq_true c_405, c_439, c_484, eq_true c_493, eq_true c_514, c_522, c_557, c_565, eq_true c_573, hr1, hr20])
                          refine lv_aload_n hx hb dX10_numeral_533 rfl (lv_at hl 2 rfl) ?_
                          refine va_get (ci := 9) (v := .int (M.1 21)) hx hb hts iX10 hown hK hP 0 rfl rfl 21 (by decide) (hts _ w_832) (fun _ h9 => h9) rfl dX10_numeral_534 ?_
                          refine lv_iconst (v := 3) hx hb dX10_numeral_537 (by decide) ?_
                          refine lv_icmp_ne (tgt := 546) hx hb dX10_numeral_538 (by decide) (fun c_538 => ?_) (fun c_538 => ?_)
                          · refine lv_bipush (v := 10) hx hb dX10_numeral_546 (by decide) ?_
                            exact J_548 10 (by simp [zr_st4, c_29, eq_true c_124, c_230, eq_true c_335, eq_true c_396, eq_true c_405, c_439, c_484, eq_true c_493, eq_true c_514, c_522, c_538, hr1, hr20])
                          · refine lv_bipush (v := 8) hx hb dX10_numeral_541 (by decide) ?_
                            refine lv_goto (tgt := 548) hx hb dX10_numeral_543 (by decide) ?_
                            exact J_548 8 (by simp [zr_st4, c_29, eq_true c_124, c_230, eq_true c_335, eq_true c_396, eq_true c_405, c_439, c_484, eq_true c_493, eq_true c_514, c_522, eq_true c_538, hr1, hr20])
                        · refine lv_aload_n hx hb dX10_numeral_525 rfl (lv_at hl 2 rfl) ?_
                          refine za_cv (wc := zm_ws g h ad M) (wr := []) C hP hD hS [0, 1, 2, 3, 4, 5, 6, 7, 8, 9, 10, 11, 12, 13, 14, 15, 16, 17] [] rfl rfl (by decide) (by decide) (za_runV C hP hD hS [0, 1, 2, 3, 4, 5, 6, 7, 8, 9, 10, 11, 12, 13, 14, 15, 16, 17] rfl (by decide) rfl (kX10_error l g E h ad M  ) w_1010 mX10_error 0 rfl rfl rfl rfl hl.1 rfl (Nat.le_of_ble_eq_true rfl) dX10_numeral_526 ⟨by decide, by decide⟩ ⟨by decide, by decide⟩) (fun M23 H locs hM23 hP hD hS => ?_)
                          have hP : va_P g.1 vwCl (zm_ws g h ad M23) H := hP
                          have hD : va_D A (zm_ws g h ad M23) := hD
                          refine lv_goto (tgt := 584) hx hb dX10_numeral_529 (by decide) ?_
                          subst hM23
                          subst hr20
                          subst hv_22
                          subst hr1
                          exact zm_rv hQ hx hb hr hlocks hK hP hD hS (by simp [zm_numeral, zq_upd, c_29, eq_true c_124, c_230, eq_true c_335, eq_true c_396, eq_true c_405, c_439, c_484, eq_true c_493, eq_true c_514, eq_true c_522]) dX10_numeral_584
                    · refine lv_aload_n hx hb dX10_numeral_496 rfl (lv_at hl 2 rfl) ?_
                      refine lv_bipush (v := 8) hx hb dX10_numeral_497 (by decide) ?_
                      refine va_put (ci := 9) (fs := zm_fs ad M.1) (v := .int 8) hx hb hts iX10 tyX10 tyX10_ok nmX10 hown hK hP hD hS 0 rfl rfl 21 (by decide) (hts _ w_832) (fun _ h9 => h9) rfl (tyX10_ok 21 (by decide)) rfl rfl (Nat.le_of_ble_eq_true rfl) dX10_numeral_499 (fun H locs hP hD hS => ?_)
                      have hP := zm_pf21 (X := M) hP
                      have hD := zm_df21 (X := M) hD
                      refine lv_aload_n hx hb dX10_numeral_502 rfl (lv_at hl 2 rfl) ?_
                      refine lv_iconst (v := 1) hx hb dX10_numeral_503 (by decide) ?_
                      refine va_put (ci := 9) (fs := zm_fs ad (zm_s M 21 8).1) (v := .int 1) hx hb hts iX10 tyX10 tyX10_ok nmX10 hown hK hP hD hS 0 rfl rfl 26 (by decide) (hts _ w_837) (fun _ h9 => h9) rfl (tyX10_ok 26 (by decide)) rfl rfl (Nat.le_of_ble_eq_true rfl) dX10_numeral_504 (fun H locs hP hD hS => ?_)
                      have hP := zm_pf26 (X := zm_s M 21 8) hP
                      have hD := zm_df26 (X := zm_s M 21 8) hD
                      refine lv_goto (tgt := 584) hx hb dX10_numeral_507 (by decide) ?_
                      subst hv_22
                      subst hr1
                      exact zm_rv hQ hx hb hr hlocks hK hP hD hS (by simp [zm_numeral, zq_upd, c_29, eq_true c_124, c_230, eq_true c_335, eq_true c_396, eq_true c_405, c_439, c_484, c_493]) dX10_numeral_584
                · refine lv_aload_n hx hb dX10_numeral_442 rfl (lv_at hl 2 rfl) ?_
                  refine va_get (ci := 9) (v := .int (M.1 21)) hx hb hts iX10 hown hK hP 0 rfl rfl 21 (by decide) (hts _ w_832) (fun _ h9 => h9) rfl dX10_numeral_443 ?_
                  refine lv_iconst (v := 2) hx hb dX10_numeral_446 (by decide) ?_
                  refine lv_icmp_eq (tgt := 474) hx hb dX10_numeral_447 (by decide) (fun c_447 => ?_) (fun c_447 => ?_)
                  · exact absurd c_447 c_230
                  · refine lv_aload_n hx hb dX10_numeral_450 rfl (lv_at hl 2 rfl) ?_
                    refine va_get (ci := 9) (v := .int (M.1 21)) hx hb hts iX10 hown hK hP 0 rfl rfl 21 (by decide) (hts _ w_832) (fun _ h9 => h9) rfl dX10_numeral_451 ?_
                    refine lv_iconst (v := 3) hx hb dX10_numeral_454 (by decide) ?_
                    refine lv_icmp_eq (tgt := 474) hx hb dX10_numeral_455 (by decide) (fun c_455 => ?_) (fun c_455 => ?_)
                    · refine lv_aload_n hx hb dX10_numeral_474 rfl (lv_at hl 2 rfl) ?_
                      refine lv_bipush (v := 6) hx hb dX10_numeral_475 (by decide) ?_
                      refine va_put (ci := 9) (fs := zm_fs ad M.1) (v := .int 6) hx hb hts iX10 tyX10 tyX10_ok nmX10 hown hK hP hD hS 0 rfl rfl 21 (by decide) (hts _ w_832) (fun _ h9 => h9) rfl (tyX10_ok 21 (by decide)) rfl rfl (Nat.le_of_ble_eq_true rfl) dX10_numeral_477 (fun H locs hP hD hS => ?_)
                      have hP := zm_pf21 (X := M) hP
                      have hD := zm_df21 (X := M) hD
                      refine lv_goto (tgt := 584) hx hb dX10_numeral_480 (by decide) ?_
                      subst hv_22
                      subst hr1
                      exact zm_rv hQ hx hb hr hlocks hK hP hD hS (by simp [zm_numeral, zq_upd, c_29, eq_true c_124, c_230, eq_true c_335, eq_true c_396, eq_true c_405, eq_true c_439, c_447, eq_true c_455]) dX10_numeral_584
                    · refine lv_aload_n hx hb dX10_numeral_458 rfl (lv_at hl 2 rfl) ?_
                      refine va_get (ci := 9) (v := .int (M.1 21)) hx hb hts iX10 hown hK hP 0 rfl rfl 21 (by decide) (hts _ w_832) (fun _ h9 => h9) rfl dX10_numeral_459 ?_
                      refine lv_iconst (v := 4) hx hb dX10_numeral_462 (by decide) ?_
                      refine lv_icmp_eq (tgt := 474) hx hb dX10_numeral_463 (by decide) (fun c_463 => ?_) (fun c_463 => ?_)
                      · refine lv_aload_n hx hb dX10_numeral_474 rfl (lv_at hl 2 rfl) ?_
                        refine lv_bipush (v := 6) hx hb dX10_numeral_475 (by decide) ?_
                        refine va_put (ci := 9) (fs := zm_fs ad M.1) (v := .int 6) hx hb hts iX10 tyX10 tyX10_ok nmX10 hown hK hP hD hS 0 rfl rfl 21 (by decide) (hts _ w_832) (fun _ h9 => h9) rfl (tyX10_ok 21 (by decide)) rfl rfl (Nat.le_of_ble_eq_true rfl) dX10_numeral_477 (fun H locs hP hD hS => ?_)
                        have hP := zm_pf21 (X := M) hP
                        have hD := zm_df21 (X := M) hD
                        refine lv_goto (tgt := 584) hx hb dX10_numeral_480 (by decide) ?_
                        subst hv_22
                        subst hr1
                        exact zm_rv hQ hx hb hr hlocks hK hP hD hS (by simp [zm_numeral, zq_upd, c_29, eq_true c_124, c_230, eq_true c_335, eq_true c_396, eq_true c_405, eq_true c_439, c_447, c_455, eq_true c_463]) dX10_numeral_584
                      · refine lv_aload_n hx hb dX10_numeral_466 rfl (lv_at hl 2 rfl) ?_
                        refine va_get (ci := 9) (v := .int (M.1 21)) hx hb hts iX10 hown hK hP 0 rfl rfl 21 (by decide) (hts _ w_832) (fun _ h9 => h9) rfl dX10_numeral_467 ?_
                        refine lv_iconst (v := 5) hx hb dX10_numeral_470 (by decide) ?_
                        refine lv_icmp_ne (tgt := 483) hx hb dX10_numeral_471 (by decide) (fun c_471 => ?_) (fun c_471 => ?_)
                        · refine lv_iload_n hx hb dX10_numeral_483 rfl (lv_at hl 0 rfl) ?_
                          refine lv_if_eq (tgt := 510) hx hb dX10_numeral_484 (by decide) (fun c_484 => ?_) (fun c_484 => ?_)
                          · refine lv_iload_n hx hb dX10_numeral_510 rfl (lv_at hl 3 rfl) ?_
                            refine za_ci (wc := []) (wr := zm_ws g h ad M) C hP hD hS [] [0, 1, 2, 3, 4, 5, 6, 7, 8, 9, 10, 11, 12, 13, 14, 15, 16, 17] rfl rfl (by decide) (by decide) (za_runS C hP hD hS [] rfl (by decide) rfl (kX10_letter l g E  x ) w_993 mX10_letter rfl hl.1 rfl (Nat.le_of_ble_eq_true rfl) dX10_numeral_511 ⟨by decide, by decide⟩ ⟨by decide, by decide⟩) (fun r24 _ H locs hr24 hP hD hS => ?_)
                            have hP : va_P g.1 vwCl (zm_ws g h ad M) H := hP
                            have hD : va_D A (zm_ws g h ad M) := hD
                            refine lv_if_ne (tgt := 525) hx hb dX10_numeral_514 (by decide) (fun c_514 => ?_) (fun c_514 => ?_)
                            · refine lv_aload_n hx hb dX10_numeral_525 rfl (lv_at hl 2 rfl) ?_
                              refine za_cv (wc := zm_ws g h ad M) (wr := []) C hP hD hS [0, 1, 2, 3, 4, 5, 6, 7, 8, 9, 10, 11, 12, 13, 14, 15, 16, 17] [] rfl rfl (by decide) (by decide) (za_runV C hP hD hS [0, 1, 2, 3, 4, 5, 6, 7, 8, 9, 10, 11, 12, 13, 14, 15, 16, 17] rfl (by decide) rfl (kX10_error l g E h ad M  ) w_1010 mX10_error 0 rfl rfl rfl rfl hl.1 rfl (Nat.le_of_ble_eq_true rfl) dX10_numeral_526 ⟨by decide, by decide⟩ ⟨by decide, by decide⟩) (fun M25 H locs hM25 hP hD hS => ?_)
                              have hP : va_P g.1 vwCl (zm_ws g h ad M25) H := hP
                              have hD : va_D A (zm_ws g h ad M25) := hD
                              refine lv_goto (tgt := 584) hx hb dX10_numeral_529 (by decide) ?_
                              subst hM25
                              subst hr24
                              subst hv_22
                              subst hr1
                              exact zm_rv hQ hx hb hr hlocks hK hP hD hS (by simp [zm_numeral, zq_upd, c_29, eq_true c_124, c_230, eq_true c_335, eq_true c_396, eq_true c_405, eq_true c_439, c_447, c_455, c_463, c_471, eq_true c_484, c_514]) dX10_numeral_584
                            · refine lv_aload_n hx hb dX10_numeral_517 rfl (lv_at hl 2 rfl) ?_
                              refine va_get (ci := 9) (v := .int (M.1 21)) hx hb hts iX10 hown hK hP 0 rfl rfl 21 (by decide) (hts _ w_832) (fun _ h9 => h9) rfl dX10_numeral_518 ?_
                              refine lv_iconst (v := 4) hx hb dX10_numeral_521 (by decide) ?_
                              refine lv_icmp_ne (tgt := 532) hx hb dX10_numeral_522 (by decide) (fun c_522 => ?_) (fun c_522 => ?_)
                              · refine lv_aload_n hx hb dX10_numeral_532 rfl (lv_at hl 2 rfl) ?_
                                have J_548 : ∀ v9 : Int32, v9 = (zr_st4 (M.1 21)) → W p l e (za_R 7 0 0) s m args below meth co H locs 0 0 Q (F0 m 548 ls (.int v9 :: [.ref h])) := by
                                  intro v_548 hv_548
                                  refine va_put (ci := 9) (fs := zm_fs ad M.1) (v := .int v_548) hx hb hts iX10 tyX10 tyX10_ok nmX10 hown hK hP hD hS 0 rfl rfl 22 (by decide) (hts _ w_833) (fun _ h9 => h9) rfl (tyX10_ok 22 (by decide)) rfl rfl (Nat.le_of_ble_eq_true rfl) dX10_numeral_548 (fun H locs hP hD hS => ?_)
                                  have hP := zm_pf22 (X := M) hP
                                  have hD := zm_df22 (X := M) hD
                                  refine lv_aload_n hx hb dX10_numeral_551 rfl (lv_at hl 2 rfl) ?_
                                  have J_581 : ∀ v9 : Int32, v9 = (zr_st5 (M.1 21)) → W p l e (za_R 7 0 0) s m args below meth co H locs 0 0 Q (F0 m 581 ls (.int v9 :: [.ref h])) := by
                                    intro v_581 hv_581
                                    refine za_cv (wc := zm_ws g h ad (zm_s M 22 v_548)) (wr := []) C hP hD hS [0, 1, 2, 3, 4, 5, 6, 7, 8, 9, 10, 11, 12, 13, 14, 15, 16, 17] [] rfl rfl (by decide) (by decide) (za_runV C hP hD hS [0, 1, 2, 3, 4, 5, 6, 7, 8, 9, 10, 11, 12, 13, 14, 15, 16, 17] rfl (by decide) rfl (kX10_ends l g E h ad (zm_s M 22 v_548) v_581 hT hB) w_1042 mX10_ends 0 rfl rfl rfl rfl hl.1 rfl (Nat.le_of_ble_eq_true rfl) dX10_numeral_581 ⟨by decide, by decide⟩ ⟨by decide, by decide⟩) (fun M26 H locs hM26 hP hD hS => ?_)
                                    have hP : va_P g.1 vwCl (zm_ws g h ad M26) H := hP
                                    have hD : va_D A (zm_ws g h ad M26) := hD
                                    subst hM26
                                    subst hv_581
                                    subst hv_548
                                    subst hr24
                                    subst hv_22
                                    subst hr1
                                    exact zm_rv hQ hx hb hr hlocks hK hP hD hS (by simp [zm_numeral, zq_upd, c_29, eq_true c_124, c_230, eq_true c_335, eq_true c_396, eq_true c_405, eq_true c_439, c_447, c_455, c_463, c_471, eq_true c_484, eq_true c_514, c_522]) dX10_numeral_584
                                  refine lv_aload_n hx hb dX10_numeral_552 rfl (lv_at hl 2 rfl) ?_
                                  refine va_get (ci := 9) (v := .int (M.1 21)) hx hb hts iX10 hown hK hP 0 rfl rfl 21 (by decide) (hts _ w_832) (fun _ h9 => h9) rfl dX10_numeral_553 ?_
                                  refine lv_iconst (v := 2) hx hb dX10_numeral_556 (by decide) ?_
                                  refine lv_icmp_eq (tgt := 576) hx hb dX10_numeral_557 (by decide) (fun c_557 => ?_) (fun c_557 => ?_)
                                  · exact absurd c_557 c_230
                                  · refine lv_aload_n hx hb dX10_numeral_560 rfl (lv_at hl 2 rfl) ?_
                                    refine va_get (ci := 9) (v := .int (M.1 21)) hx hb hts iX10 hown hK hP 0 rfl rfl 21 (by decide) (hts _ w_832) (fun _ h9 => h9) rfl dX10_numeral_561 ?_
                                    refine lv_iconst (v := 3) hx hb dX10_numeral_564 (by decide) ?_
                                    refine lv_icmp_eq (tgt := 576) hx hb dX10_numeral_565 (by decide) (fun c_565 => ?_) (fun c_565 => ?_)
                                    · exact absurd c_565 c_455
                                    · refine lv_aload_n hx hb dX10_numeral_568 rfl (lv_at hl 2 rfl) ?_
                                      refine va_get (ci := 9) (v := .int (M.1 21)) hx hb hts iX10 hown hK hP 0 rfl rfl 21 (by decide) (hts _ w_832) (fun _ h9 => h9) rfl dX10_numeral_569 ?_
                                      refine lv_iconst (v := 5) hx hb dX10_numeral_572 (by decide) ?_
                                      refine lv_icmp_ne (tgt := 580) hx hb dX10_numeral_573 (by decide) (fun c_573 => ?_) (fun c_573 => ?_)
                                      · refine lv_iconst (v := 0) hx hb dX10_numeral_580 (by decide) ?_
                                        exact J_581 0 (by simp [zr_st5, c_29, eq_true c_124, c_230, eq_true c_335, eq_true c_396, eq_true c_405, eq_true c_439, c_447, c_455, c_463, c_471, eq_true c_484, eq_true c_514, c_522, c_557, c_565, c_573, hr1, hr24])
                                      · exact absurd c_573 c_471
                                refine lv_aload_n hx hb dX10_numeral_533 rfl (lv_at hl 2 rfl) ?_
                                refine va_get (ci := 9) (v := .int (M.1 21)) hx hb hts iX10 hown hK hP 0 rfl rfl 21 (by decide) (hts _ w_832) (fun _ h9 => h9) rfl dX10_numeral_534 ?_
                                refine lv_iconst (v := 3) hx hb dX10_numeral_537 (by decide) ?_
                                refine lv_icmp_ne (tgt := 546) hx hb dX10_numeral_538 (by decide) (fun c_538 => ?_) (fun c_538 => ?_)
                                · refine lv_bipush (v := 10) hx hb dX10_numeral_546 (by decide) ?_
                                  exact J_548 10 (by simp [zr_st4, c_29, eq_true c_124, c_230, eq_true c_335, eq_true c_396, eq_true c_405, eq_true c_439, c_447, c_455, c_463, c_471, eq_true c_484, eq_true c_514, c_522, c_538, hr1, hr24])
                                · exact absurd c_538 c_455
                              · exact absurd c_522 c_463
                          · refine lv_aload_n hx hb dX10_numeral_487 rfl (lv_at hl 2 rfl) ?_
                            refine va_get (ci := 9) (v := .int (M.1 21)) hx hb hts iX10 hown hK hP 0 rfl rfl 21 (by decide) (hts _ w_832) (fun _ h9 => h9) rfl dX10_numeral_488 ?_
                            refine lv_bipush (v := 10) hx hb dX10_numeral_491 (by decide) ?_
                            refine lv_icmp_eq (tgt := 510) hx hb dX10_numeral_493 (by decide) (fun c_493 => ?_) (fun c_493 => ?_)
                            · refine lv_iload_n hx hb dX10_numeral_510 rfl (lv_at hl 3 rfl) ?_
                              refine za_ci (wc := []) (wr := zm_ws g h ad M) C hP hD hS [] [0, 1, 2, 3, 4, 5, 6, 7, 8, 9, 10, 11, 12, 13, 14, 15, 16, 17] rfl rfl (by decide) (by decide) (za_runS C hP hD hS [] rfl (by decide) rfl (kX10_letter l g E  x ) w_993 mX10_letter rfl hl.1 rfl (Nat.le_of_ble_eq_true rfl) dX10_numeral_511 ⟨by decide, by decide⟩ ⟨by decide, by decide⟩) (fun r27 _ H locs hr27 hP hD hS => ?_)
                              have hP : va_P g.1 vwCl (zm_ws g h ad M) H := hP
                              have hD : va_D A (zm_ws g h ad M) := hD
                              refine lv_if_ne (tgt := 525) hx hb dX10_numeral_514 (by decide) (fun c_514 => ?_) (fun c_514 => ?_)
                              · refine lv_aload_n hx hb dX10_numeral_525 rfl (lv_at hl 2 rfl) ?_
                                refine za_cv (wc := zm_ws g h ad M) (wr := []) C hP hD hS [0, 1, 2, 3, 4, 5, 6, 7, 8, 9, 10, 11, 12, 13, 14, 15, 16, 17] [] rfl rfl (by decide) (by decide) (za_runV C hP hD hS [0, 1, 2, 3, 4, 5, 6, 7, 8, 9, 10, 11, 12, 13, 14, 15, 16, 17] rfl (by decide) rfl (kX10_error l g E h ad M  ) w_1010 mX10_error 0 rfl rfl rfl rfl hl.1 rfl (Nat.le_of_ble_eq_true rfl) dX10_numeral_526 ⟨by decide, by decide⟩ ⟨by decide, by decide⟩) (fun M28 H locs hM28 hP hD hS => ?_)
                                have hP : va_P g.1 vwCl (zm_ws g h ad M28) H := hP
                                have hD : va_D A (zm_ws g h ad M28) := hD
                                refine lv_goto (tgt := 584) hx hb dX10_numeral_529 (by decide) ?_
                                subst hM28
                                subst hr27
                                subst hv_22
                                subst hr1
                                exact zm_rv hQ hx hb hr hlocks hK hP hD hS (by simp [zm_numeral, zq_upd, c_29, eq_true c_124, c_230, eq_true c_335, eq_true c_396, eq_true c_405, eq_true c_439, c_447, c_455, c_463, c_471, c_484, eq_true c_493, c_514]) dX10_numeral_584
                              · refine lv_aload_n hx hb dX10_numeral_517 rfl (lv_at hl 2 rfl) ?_
                                refine va_get (ci := 9) (v := .int (M.1 21)) hx hb hts iX10 hown hK hP 0 rfl rfl 21 (by decide) (hts _ w_832) (fun _ h9 => h9) rfl dX10_numeral_518 ?_
                                refine lv_iconst (v := 4) hx hb dX10_numeral_521 (by decide) ?_
                                refine lv_icmp_ne (tgt := 532) hx hb dX10_numeral_522 (by decide) (fun c_522 => ?_) (fun c_522 => ?_)
                                · refine lv_aload_n hx hb dX10_numeral_532 rfl (lv_at hl 2 rfl) ?_
                                  have J_548 : ∀ v9 : Int32, v9 = (zr_st4 (M.1 21)) → W p l e (za_R 7 0 0) s m args below meth co H locs 0 0 Q (F0 m 548 ls (.int v9 :: [.ref h])) := by
                                    intro v_548 hv_548
                                    refine va_put (ci := 9) (fs := zm_fs ad M.1) (v := .int v_548) hx hb hts iX10 tyX10 tyX10_ok nmX10 hown hK hP hD hS 0 rfl rfl 22 (by decide) (hts _ w_833) (fun _ h9 => h9) rfl (tyX10_ok 22 (by decide)) rfl rfl (Nat.le_of_ble_eq_true rfl) dX10_numeral_548 (fun H locs hP hD hS => ?_)
                                    have hP := zm_pf22 (X := M) hP
                                    have hD := zm_df22 (X := M) hD
                                    refine lv_aload_n hx hb dX10_numeral_551 rfl (lv_at hl 2 rfl) ?_
                                    have J_581 : ∀ v9 : Int32, v9 = (zr_st5 (M.1 21)) → W p l e (za_R 7 0 0) s m args below meth co H locs 0 0 Q (F0 m 581 ls (.int v9 :: [.ref h])) := by
                                      intro v_581 hv_581
                                      refine za_cv (wc := zm_ws g h ad (zm_s M 22 v_548)) (wr := []) C hP hD hS [0, 1, 2, 3, 4, 5, 6, 7, 8, 9, 10, 11, 12, 13, 14, 15, 16, 17] [] rfl rfl (by decide) (by decide) (za_runV C hP hD hS [0, 1, 2, 3, 4, 5, 6, 7, 8, 9, 10, 11, 12, 13, 14, 15, 16, 17] rfl (by decide) rfl (kX10_ends l g E h ad (zm_s M 22 v_548) v_581 hT hB) w_1042 mX10_ends 0 rfl rfl rfl rfl hl.1 rfl (Nat.le_of_ble_eq_true rfl) dX10_numeral_581 ⟨by decide, by decide⟩ ⟨by decide, by decide⟩) (fun M29 H locs hM29 hP hD hS => ?_)
                                      have hP : va_P g.1 vwCl (zm_ws g h ad M29) H := hP
                                      have hD : va_D A (zm_ws g h ad M29) := hD
                                      subst hM29
                                      subst hv_581
                                      subst hv_548
                                      subst hr27
                                      subst hv_22
                                      subst hr1
                                      exact zm_rv hQ hx hb hr hlocks hK hP hD hS (by simp [zm_numeral, zq_upd, c_29, eq_true c_124, c_230, eq_true c_335, eq_true c_396, eq_true c_405, eq_true c_439, c_447, c_455, c_463, c_471, c_484, eq_true c_493, eq_true c_514, c_522]) dX10_numeral_584
                                    refine lv_aload_n hx hb dX10_numeral_552 rfl (lv_at hl 2 rfl) ?_
                                    refine va_get (ci := 9) (v := .int (M.1 21)) hx hb hts iX10 hown hK hP 0 rfl rfl 21 (by decide) (hts _ w_832) (fun _ h9 => h9) rfl dX10_numeral_553 ?_
                                    refine lv_iconst (v := 2) hx hb dX10_numeral_556 (by decide) ?_
                                    refine lv_icmp_eq (tgt := 576) hx hb dX10_numeral_557 (by decide) (fun c_557 => ?_) (fun c_557 => ?_)
                                    · exact absurd c_557 c_230
                                    · refine lv_aload_n hx hb dX10_numeral_560 rfl (lv_at hl 2 rfl) ?_
                                      refine va_get (ci := 9) (v := .int (M.1 21)) hx hb hts iX10 hown hK hP 0 rfl rfl 21 (by decide) (hts _ w_832) (fun _ h9 => h9) rfl dX10_numeral_561 ?_
                                      refine lv_iconst (v := 3) hx hb dX10_numeral_564 (by decide) ?_
                                      refine lv_icmp_eq (tgt := 576) hx hb dX10_numeral_565 (by decide) (fun c_565 => ?_) (fun c_565 => ?_)
                                      · exact absurd c_565 c_455
                                      · refine lv_aload_n hx hb dX10_numeral_568 rfl (lv_at hl 2 rfl) ?_
                                        refine va_get (ci := 9) (v := .int (M.1 21)) hx hb hts iX10 hown hK hP 0 rfl rfl 21 (by decide) (hts _ w_832) (fun _ h9 => h9) rfl dX10_numeral_569 ?_
                                        refine lv_iconst (v := 5) hx hb dX10_numeral_572 (by decide) ?_
                                        refine lv_icmp_ne (tgt := 580) hx hb dX10_numeral_573 (by decide) (fun c_573 => ?_) (fun c_573 => ?_)
                                        · refine lv_iconst (v := 0) hx hb dX10_numeral_580 (by decide) ?_
                                          exact J_581 0 (by simp [zr_st5, c_29, eq_true c_124, c_230, eq_true c_335, eq_true c_396, eq_true c_405, eq_true c_439, c_447, c_455, c_463, c_471, c_484, eq_true c_493, eq_true c_514, c_522, c_557, c_565, c_573, hr1, hr27])
                                        · exact absurd c_573 c_471
                                  refine lv_aload_n hx hb dX10_numeral_533 rfl (lv_at hl 2 rfl) ?_
                                  refine va_get (ci := 9) (v := .int (M.1 21)) hx hb hts iX10 hown hK hP 0 rfl rfl 21 (by decide) (hts _ w_832) (fun _ h9 => h9) rfl dX10_numeral_534 ?_
                                  refine lv_iconst (v := 3) hx hb dX10_numeral_537 (by decide) ?_
                                  refine lv_icmp_ne (tgt := 546) hx hb dX10_numeral_538 (by decide) (fun c_538 => ?_) (fun c_538 => ?_)
                                  · refine lv_bipush (v := 10) hx hb dX10_numeral_546 (by decide) ?_
                                    exact J_548 10 (by simp [zr_st4, c_29, eq_true c_124, c_230, eq_true c_335, eq_true c_396, eq_true c_405, eq_true c_439, c_447, c_455, c_463, c_471, c_484, eq_true c_493, eq_true c_514, c_522, c_538, hr1, hr27])
                                  · exact absurd c_538 c_455
                                · exact absurd c_522 c_463
                            · refine lv_aload_n hx hb dX10_numeral_496 rfl (lv_at hl 2 rfl) ?_
                              refine lv_bipush (v := 8) hx hb dX10_numeral_497 (by decide) ?_
                              refine va_put (ci := 9) (fs := zm_fs ad M.1) (v := .int 8) hx hb hts iX10 tyX10 tyX10_ok nmX10 hown hK hP hD hS 0 rfl rfl 21 (by decide) (hts _ w_832) (fun _ h9 => h9) rfl (tyX10_ok 21 (by decide)) rfl rfl (Nat.le_of_ble_eq_true rfl) dX10_numeral_499 (fun H locs hP hD hS => ?_)
                              have hP := zm_pf21 (X := M) hP
                              have hD := zm_df21 (X := M) hD
                              refine lv_aload_n hx hb dX10_numeral_502 rfl (lv_at hl 2 rfl) ?_
                              refine lv_iconst (v := 1) hx hb dX10_numeral_503 (by decide) ?_
                              refine va_put (ci := 9) (fs := zm_fs ad (zm_s M 21 8).1) (v := .int 1) hx hb hts iX10 tyX10 tyX10_ok nmX10 hown hK hP hD hS 0 rfl rfl 26 (by decide) (hts _ w_837) (fun _ h9 => h9) rfl (tyX10_ok 26 (by decide)) rfl rfl (Nat.le_of_ble_eq_true rfl) dX10_numeral_504 (fun H locs hP hD hS => ?_)
                              have hP := zm_pf26 (X := zm_s M 21 8) hP
                              have hD := zm_df26 (X := zm_s M 21 8) hD
                              refine lv_goto (tgt := 584) hx hb dX10_numeral_507 (by decide) ?_
                              subst hv_22
                              subst hr1
                              exact zm_rv hQ hx hb hr hlocks hK hP hD hS (by simp [zm_numeral, zq_upd, c_29, eq_true c_124, c_230, eq_true c_335, eq_true c_396, eq_true c_405, eq_true c_439, c_447, c_455, c_463, c_471, c_484, c_493]) dX10_numeral_584
                        · refine lv_aload_n hx hb dX10_numeral_474 rfl (lv_at hl 2 rfl) ?_
                          refine lv_bipush (v := 6) hx hb dX10_numeral_475 (by decide) ?_
                          refine va_put (ci := 9) (fs := zm_fs ad M.1) (v := .int 6) hx hb hts iX10 tyX10 tyX10_ok nmX10 hown hK hP hD hS 0 rfl rfl 21 (by decide) (hts _ w_832) (fun _ h9 => h9) rfl (tyX10_ok 21 (by decide)) rfl rfl (Nat.le_of_ble_eq_true rfl) dX10_numeral_477 (fun H locs hP hD hS => ?_)
                          have hP := zm_pf21 (X := M) hP
                          have hD := zm_df21 (X := M) hD
                          refine lv_goto (tgt := 584) hx hb dX10_numeral_480 (by decide) ?_
                          subst hv_22
                          subst hr1
                          exact zm_rv hQ hx hb hr hlocks hK hP hD hS (by simp [zm_numeral, zq_upd, c_29, eq_true c_124, c_230, eq_true c_335, eq_true c_396, eq_true c_405, eq_true c_439, c_447, c_455, c_463, eq_true c_471]) dX10_numeral_584
              · refine lv_aload_n hx hb dX10_numeral_408 rfl (lv_at hl 2 rfl) ?_
                have J_425 : ∀ v9 : Int32, v9 = (zr_st3 (M.1 21)) → W p l e (za_R 7 0 0) s m args below meth co H locs 0 0 Q (F0 m 425 ls (.int v9 :: [.ref h])) := by
                  intro v_425 hv_425
                  refine va_put (ci := 9) (fs := zm_fs ad M.1) (v := .int v_425) hx hb hts iX10 tyX10 tyX10_ok nmX10 hown hK hP hD hS 0 rfl rfl 21 (by decide) (hts _ w_832) (fun _ h9 => h9) rfl (tyX10_ok 21 (by decide)) rfl rfl (Nat.le_of_ble_eq_true rfl) dX10_numeral_425 (fun H locs hP hD hS => ?_)
                  have hP := zm_pf21 (X := M) hP
                  have hD := zm_df21 (X := M) hD
                  refine lv_aload_n hx hb dX10_numeral_428 rfl (lv_at hl 2 rfl) ?_
                  refine lv_iconst (v := 1) hx hb dX10_numeral_429 (by decide) ?_
                  refine va_put (ci := 9) (fs := zm_fs ad (zm_s M 21 v_425).1) (v := .int 1) hx hb hts iX10 tyX10 tyX10_ok nmX10 hown hK hP hD hS 0 rfl rfl 26 (by decide) (hts _ w_837) (fun _ h9 => h9) rfl (tyX10_ok 26 (by decide)) rfl rfl (Nat.le_of_ble_eq_true rfl) dX10_numeral_430 (fun H locs hP hD hS => ?_)
                  have hP := zm_pf26 (X := zm_s M 21 v_425) hP
                  have hD := zm_df26 (X := zm_s M 21 v_425) hD
                  refine lv_goto (tgt := 584) hx hb dX10_numeral_433 (by decide) ?_
                  subst hv_425
                  subst hv_22
                  subst hr1
                  exact zm_rv hQ hx hb hr hlocks hK hP hD hS (by simp [zm_numeral, zq_upd, c_29, eq_true c_124, c_230, eq_true c_335, eq_true c_396, c_405]) dX10_numeral_584
                refine lv_aload_n hx hb dX10_numeral_409 rfl (lv_at hl 2 rfl) ?_
                refine va_get (ci := 9) (v := .int (M.1 21)) hx hb hts iX10 hown hK hP 0 rfl rfl 21 (by decide) (hts _ w_832) (fun _ h9 => h9) rfl dX10_numeral_410 ?_
                refine lv_iconst (v := 2) hx hb dX10_numeral_413 (by decide) ?_
                refine lv_icmp_ne (tgt := 421) hx hb dX10_numeral_414 (by decide) (fun c_414 => ?_) (fun c_414 => ?_)
                · refine lv_aload_n hx hb dX10_numeral_421 rfl (lv_at hl 2 rfl) ?_
                  refine va_get (ci := 9) (v := .int (M.1 21)) hx hb hts iX10 hown hK hP 0 rfl rfl 21 (by decide) (hts _ w_832) (fun _ h9 => h9) rfl dX10_numeral_422 ?_
                  exact J_425 (M.1 21) (by simp [zr_st3, c_29, eq_true c_124, c_230, eq_true c_335, eq_true c_396, c_405, c_414, hr1])
                · exact absurd c_414 c_230
          · refine lv_aload_n hx hb dX10_numeral_338 rfl (lv_at hl 2 rfl) ?_
            have J_387 : ∀ v9 : Int32, v9 = (zr_st2 (M.1 21) x) → W p l e (za_R 7 0 0) s m args below meth co H locs 0 0 Q (F0 m 387 ls (.int v9 :: [.ref h])) := by
              intro v_387 hv_387
              refine va_put (ci := 9) (fs := zm_fs ad M.1) (v := .int v_387) hx hb hts iX10 tyX10 tyX10_ok nmX10 hown hK hP hD hS 0 rfl rfl 21 (by decide) (hts _ w_832) (fun _ h9 => h9) rfl (tyX10_ok 21 (by decide)) rfl rfl (Nat.le_of_ble_eq_true rfl) dX10_numeral_387 (fun H locs hP hD hS => ?_)
              have hP := zm_pf21 (X := M) hP
              have hD := zm_df21 (X := M) hD
              refine lv_goto (tgt := 584) hx hb dX10_numeral_390 (by decide) ?_
              subst hv_387
              subst hv_22
              subst hr1
              exact zm_rv hQ hx hb hr hlocks hK hP hD hS (by simp [zm_numeral, zq_upd, c_29, eq_true c_124, c_230, c_335]) dX10_numeral_584
            refine lv_aload_n hx hb dX10_numeral_339 rfl (lv_at hl 2 rfl) ?_
            refine va_get (ci := 9) (v := .int (M.1 21)) hx hb hts iX10 hown hK hP 0 rfl rfl 21 (by decide) (hts _ w_832) (fun _ h9 => h9) rfl dX10_numeral_340 ?_
            refine lv_iconst (v := 2) hx hb dX10_numeral_343 (by decide) ?_
            refine lv_icmp_eq (tgt := 355) hx hb dX10_numeral_344 (by decide) (fun c_344 => ?_) (fun c_344 => ?_)
            · exact absurd c_344 c_230
            · refine lv_aload_n hx hb dX10_numeral_347 rfl (lv_at hl 2 rfl) ?_
              refine va_get (ci := 9) (v := .int (M.1 21)) hx hb hts iX10 hown hK hP 0 rfl rfl 21 (by decide) (hts _ w_832) (fun _ h9 => h9) rfl dX10_numeral_348 ?_
              refine lv_iconst (v := 3) hx hb dX10_numeral_351 (by decide) ?_
              refine lv_icmp_ne (tgt := 369) hx hb dX10_numeral_352 (by decide) (fun c_352 => ?_) (fun c_352 => ?_)
              · refine lv_aload_n hx hb dX10_numeral_369 rfl (lv_at hl 2 rfl) ?_
                refine va_get (ci := 9) (v := .int (M.1 21)) hx hb hts iX10 hown hK hP 0 rfl rfl 21 (by decide) (hts _ w_832) (fun _ h9 => h9) rfl dX10_numeral_370 ?_
                refine lv_bipush (v := 6) hx hb dX10_numeral_373 (by decide) ?_
                refine lv_icmp_ne (tgt := 383) hx hb dX10_numeral_375 (by decide) (fun c_375 => ?_) (fun c_375 => ?_)
                · refine lv_aload_n hx hb dX10_numeral_383 rfl (lv_at hl 2 rfl) ?_
                  refine va_get (ci := 9) (v := .int (M.1 21)) hx hb hts iX10 hown hK hP 0 rfl rfl 21 (by decide) (hts _ w_832) (fun _ h9 => h9) rfl dX10_numeral_384 ?_
                  exact J_387 (M.1 21) (by simp [zr_st2, c_29, eq_true c_124, c_230, c_335, c_344, c_352, c_375, hr1])
                · refine lv_bipush (v := 7) hx hb dX10_numeral_378 (by decide) ?_
                  refine lv_goto (tgt := 387) hx hb dX10_numeral_380 (by decide) ?_
                  exact J_387 7 (by simp [zr_st2, c_29, eq_true c_124, c_230, c_335, c_344, c_352, eq_true c_375, hr1])
              · refine lv_iload_n hx hb dX10_numeral_355 rfl (lv_at hl 3 rfl) ?_
                refine lv_bipush (v := 55) hx hb dX10_numeral_356 (by decide) ?_
                refine za_icmp_le (tgt := 365) hx hb dX10_numeral_358 (by decide) (fun c_358 => ?_) (fun c_358 => ?_)
                · refine lv_iconst (v := 3) hx hb dX10_numeral_365 (by decide) ?_
                  refine lv_goto (tgt := 387) hx hb dX10_numeral_366 (by decide) ?_
                  exact J_387 3 (by simp [zr_st2, c_29, eq_true c_124, c_230, c_335, c_344, eq_true c_352, c_358, hr1])
                · refine lv_iconst (v := 4) hx hb dX10_numeral_361 (by decide) ?_
                  refine lv_goto (tgt := 387) hx hb dX10_numeral_362 (by decide) ?_
                  exact J_387 4 (by simp [zr_st2, c_29, eq_true c_124, c_230, c_335, c_344, eq_true c_352, c_358, hr1])
        · refine lv_iload_n hx hb dX10_numeral_233 rfl (lv_at hl 1 rfl) ?_
          refine lv_if_ne (tgt := 334) hx hb dX10_numeral_234 (by decide) (fun c_234 => ?_) (fun c_234 => ?_)
          · refine lv_iload_n hx hb dX10_numeral_334 rfl (lv_at hl 1 rfl) ?_
            refine lv_if_eq (tgt := 393) hx hb dX10_numeral_335 (by decide) (fun c_335 => ?_) (fun c_335 => ?_)
            · exact absurd c_335 c_234
            · refine lv_aload_n hx hb dX10_numeral_338 rfl (lv_at hl 2 rfl) ?_
              have J_387 : ∀ v9 : Int32, v9 = (zr_st2 (M.1 21) x) → W p l e (za_R 7 0 0) s m args below meth co H locs 0 0 Q (F0 m 387 ls (.int v9 :: [.ref h])) := by
                intro v_387 hv_387
                refine va_put (ci := 9) (fs := zm_fs ad M.1) (v := .int v_387) hx hb hts iX10 tyX10 tyX10_ok nmX10 hown hK hP hD hS 0 rfl rfl 21 (by decide) (hts _ w_832) (fun _ h9 => h9) rfl (tyX10_ok 21 (by decide)) rfl rfl (Nat.le_of_ble_eq_true rfl) dX10_numeral_387 (fun H locs hP hD hS => ?_)
                have hP := zm_pf21 (X := M) hP
                have hD := zm_df21 (X := M) hD
                refine lv_goto (tgt := 584) hx hb dX10_numeral_390 (by decide) ?_
                subst hv_387
                subst hv_22
                subst hr1
                exact zm_rv hQ hx hb hr hlocks hK hP hD hS (by simp [zm_numeral, zq_upd, c_29, eq_true c_124, eq_true c_230, c_234, c_335]) dX10_numeral_584
              refine lv_aload_n hx hb dX10_numeral_339 rfl (lv_at hl 2 rfl) ?_
              refine va_get (ci := 9) (v := .int (M.1 21)) hx hb hts iX10 hown hK hP 0 rfl rfl 21 (by decide) (hts _ w_832) (fun _ h9 => h9) rfl dX10_numeral_340 ?_
              refine lv_iconst (v := 2) hx hb dX10_numeral_343 (by decide) ?_
              refine lv_icmp_eq (tgt := 355) hx hb dX10_numeral_344 (by decide) (fun c_344 => ?_) (fun c_344 => ?_)
              · refine lv_iload_n hx hb dX10_numeral_355 rfl (lv_at hl 3 rfl) ?_
                refine lv_bipush (v := 55) hx hb dX10_numeral_356 (by decide) ?_
                refine za_icmp_le (tgt := 365) hx hb dX10_numeral_358 (by decide) (fun c_358 => ?_) (fun c_358 => ?_)
                · refine lv_iconst (v := 3) hx hb dX10_numeral_365 (by decide) ?_
                  refine lv_goto (tgt := 387) hx hb dX10_numeral_366 (by decide) ?_
                  exact J_387 3 (by simp [zr_st2, c_29, eq_true c_124, eq_true c_230, c_234, c_335, eq_true c_344, c_358, hr1])
                · refine lv_iconst (v := 4) hx hb dX10_numeral_361 (by decide) ?_
                  refine lv_goto (tgt := 387) hx hb dX10_numeral_362 (by decide) ?_
                  exact J_387 4 (by simp [zr_st2, c_29, eq_true c_124, eq_true c_230, c_234, c_335, eq_true c_344, c_358, hr1])
              · exact absurd c_230 c_344
          · refine lv_iload_n hx hb dX10_numeral_237 rfl (lv_at hl 3 rfl) ?_
            refine lv_bipush (v := 95) hx hb dX10_numeral_238 (by decide) ?_
            refine lv_icmp_eq (tgt := 334) hx hb dX10_numeral_240 (by decide) (fun c_240 => ?_) (fun c_240 => ?_)
            · refine lv_iload_n hx hb dX10_numeral_334 rfl (lv_at hl 1 rfl) ?_
              refine lv_if_eq (tgt := 393) hx hb dX10_numeral_335 (by decide) (fun c_335 => ?_) (fun c_335 => ?_)
              · refine lv_iload_n hx hb dX10_numeral_393 rfl (lv_at hl 3 rfl) ?_
                refine lv_bipush (v := 95) hx hb dX10_numeral_394 (by decide) ?_
                refine lv_icmp_ne (tgt := 436) hx hb dX10_numeral_396 (by decide) (fun c_396 => ?_) (fun c_396 => ?_)
                · exact absurd c_240 c_396
                · refine lv_aload_n hx hb dX10_numeral_399 rfl (lv_at hl 2 rfl) ?_
                  refine va_get (ci := 9) (v := .int (M.1 21)) hx hb hts iX10 hown hK hP 0 rfl rfl 21 (by decide) (hts _ w_832) (fun _ h9 => h9) rfl dX10_numeral_400 ?_
                  refine lv_bipush (v := 6) hx hb dX10_numeral_403 (by decide) ?_
                  refine lv_icmp_eq (tgt := 436) hx hb dX10_numeral_405 (by decide) (fun c_405 => ?_) (fun c_405 => ?_)
                  · refine lv_iload_n hx hb dX10_numeral_436 rfl (lv_at hl 3 rfl) ?_
                    refine lv_bipush (v := 46) hx hb dX10_numeral_437 (by decide) ?_
                    refine lv_icmp_ne (tgt := 483) hx hb dX10_numeral_439 (by decide) (fun c_439 => ?_) (fun c_439 => ?_)
                    · refine lv_iload_n hx hb dX10_numeral_483 rfl (lv_at hl 0 rfl) ?_
                      refine lv_if_eq (tgt := 510) hx hb dX10_numeral_484 (by decide) (fun c_484 => ?_) (fun c_484 => ?_)
                      · refine lv_iload_n hx hb dX10_numeral_510 rfl (lv_at hl 3 rfl) ?_
                        refine za_ci (wc := []) (wr := zm_ws g h ad M) C hP hD hS [] [0, 1, 2, 3, 4, 5, 6, 7, 8, 9, 10, 11, 12, 13, 14, 15, 16, 17] rfl rfl (by decide) (by decide) (za_runS C hP hD hS [] rfl (by decide) rfl (kX10_letter l g E  x ) w_993 mX10_letter rfl hl.1 rfl (Nat.le_of_ble_eq_true rfl) dX10_numeral_511 ⟨by decide, by decide⟩ ⟨by decide, by decide⟩) (fun r30 _ H locs hr30 hP hD hS => ?_)
                        have hP : va_P g.1 vwCl (zm_ws g h ad M) H := hP
                        have hD : va_D A (zm_ws g h ad M) := hD
                        refine lv_if_ne (tgt := 525) hx hb dX10_numeral_514 (by decide) (fun c_514 => ?_) (fun c_514 => ?_)
                        · refine lv_aload_n hx hb dX10_numeral_525 rfl (lv_at hl 2 rfl) ?_
                          refine za_cv (wc := zm_ws g h ad M) (wr := []) C hP hD hS [0, 1, 2, 3, 4, 5, 6, 7, 8, 9, 10, 11, 12, 13, 14, 15, 16, 17] [] rfl rfl (by decide) (by decide) (za_runV C hP hD hS [0, 1, 2, 3, 4, 5, 6, 7, 8, 9, 10, 11, 12, 13, 14, 15, 16, 17] rfl (by decide) rfl (kX10_error l g E h ad M  ) w_1010 mX10_error 0 rfl rfl rfl rfl hl.1 rfl (Nat.le_of_ble_eq_true rfl) dX10_numeral_526 ⟨by decide, by decide⟩ ⟨by decide, by decide⟩) (fun M31 H locs hM31 hP hD hS => ?_)
                          have hP : va_P g.1 vwCl (zm_ws g h ad M31) H := hP
                          have hD : va_D A (zm_ws g h ad M31) := hD
                          refine lv_goto (tgt := 584) hx hb dX10_numeral_529 (by decide) ?_
                          subst hM31
                          subst hr30
                          subst hv_22
                          subst hr1
                          exact zm_rv hQ hx hb hr hlocks hK hP hD hS (by simp [zm_numeral, zq_upd, c_29, eq_true c_124, eq_true c_230, eq_true c_234, eq_true c_240, eq_true c_335, eq_true c_396, eq_true c_405, c_439, eq_true c_484, c_514]) dX10_numeral_584
                        · refine lv_aload_n hx hb dX10_numeral_517 rfl (lv_at hl 2 rfl) ?_
                          refine va_get (ci := 9) (v := .int (M.1 21)) hx hb hts iX10 hown hK hP 0 rfl rfl 21 (by decide) (hts _ w_832) (fun _ h9 => h9) rfl dX10_numeral_518 ?_
                          refine lv_iconst (v := 4) hx hb dX10_numeral_521 (by decide) ?_
                          refine lv_icmp_ne (tgt := 532) hx hb dX10_numeral_522 (by decide) (fun c_522 => ?_) (fun c_522 => ?_)
                          · refine lv_aload_n hx hb dX10_numeral_532 rfl (lv_at hl 2 rfl) ?_
                            have J_548 : ∀ v9 : Int32, v9 = (zr_st4 (M.1 21)) → W p l e (za_R 7 0 0) s m args below meth co H locs 0 0 Q (F0 m 548 ls (.int v9 :: [.ref h])) := by
                              intro v_548 hv_548
                              refine va_put (ci := 9) (fs := zm_fs ad M.1) (v := .int v_548) hx hb hts iX10 tyX10 tyX10_ok nmX10 hown hK hP hD hS 0 rfl rfl 22 (by decide) (hts _ w_833) (fun _ h9 => h9) rfl (tyX10_ok 22 (by decide)) rfl rfl (Nat.le_of_ble_eq_true rfl) dX10_numeral_548 (fun H locs hP hD hS => ?_)
                              have hP := zm_pf22 (X := M) hP
                              have hD := zm_df22 (X := M) hD
                              refine lv_aload_n hx hb dX10_numeral_551 rfl (lv_at hl 2 rfl) ?_
                              have J_581 : ∀ v9 : Int32, v9 = (zr_st5 (M.1 21)) → W p l e (za_R 7 0 0) s m args below meth co H locs 0 0 Q (F0 m 581 ls (.int v9 :: [.ref h])) := by
                                intro v_581 hv_581
                                refine za_cv (wc := zm_ws g h ad (zm_s M 22 v_548)) (wr := []) C hP hD hS [0, 1, 2, 3, 4, 5, 6, 7, 8, 9, 10, 11, 12, 13, 14, 15, 16, 17] [] rfl rfl (by decide) (by decide) (za_runV C hP hD hS [0, 1, 2, 3, 4, 5, 6, 7, 8, 9, 10, 11, 12, 13, 14, 15, 16, 17] rfl (by decide) rfl (kX10_ends l g E h ad (zm_s M 22 v_548) v_581 hT hB) w_1042 mX10_ends 0 rfl rfl rfl rfl hl.1 rfl (Nat.le_of_ble_eq_true rfl) dX10_numeral_581 ⟨by decide, by decide⟩ ⟨by decide, by decide⟩) (fun M32 H locs hM32 hP hD hS => ?_)
                                have hP : va_P g.1 vwCl (zm_ws g h ad M32) H := hP
                                have hD : va_D A (zm_ws g h ad M32) := hD
                                subst hM32
                                subst hv_581
                                subst hv_548
                                subst hr30
                                subst hv_22
                                subst hr1
                                exact zm_rv hQ hx hb hr hlocks hK hP hD hS (by simp [zm_numeral, zq_upd, c_29, eq_true c_124, eq_true c_230, eq_true c_234, eq_true c_240, eq_true c_335, eq_true c_396, eq_true c_405, c_439, eq_true c_484, eq_true c_514, c_522]) dX10_numeral_584
                              refine lv_aload_n hx hb dX10_numeral_552 rfl (lv_at hl 2 rfl) ?_
                              refine va_get (ci := 9) (v := .int (M.1 21)) hx hb hts iX10 hown hK hP 0 rfl rfl 21 (by decide) (hts _ w_832) (fun _ h9 => h9) rfl dX10_numeral_553 ?_
                              refine lv_iconst (v := 2) hx hb dX10_numeral_556 (by decide) ?_
                              refine lv_icmp_eq (tgt := 576) hx hb dX10_numeral_557 (by decide) (fun c_557 => ?_) (fun c_557 => ?_)
                              · refine lv_iconst (v := 1) hx hb dX10_numeral_576 (by decide) ?_
                                refine lv_goto (tgt := 581) hx hb dX10_numeral_577 (by decide) ?_
                                exact J_581 1 (by simp [zr_st5, c_29, eq_true c_124, eq_true c_230, eq_true c_234, eq_true c_240, eq_true c_335, eq_true c_396, eq_true c_405, c_439, eq_true c_484, eq_true c_514, c_522, eq_true c_557, hr1, hr30])
                              · exact absurd c_230 c_557
                            refine lv_aload_n hx hb dX10_numeral_533 rfl (lv_at hl 2 rfl) ?_
                            refine va_get (ci := 9) (v := .int (M.1 21)) hx hb hts iX10 hown hK hP 0 rfl rfl 21 (by decide) (hts _ w_832) (fun _ h9 => h9) rfl dX10_numeral_534 ?_
                            refine lv_iconst (v := 3) hx hb dX10_numeral_537 (by decide) ?_
                            refine lv_icmp_ne (tgt := 546) hx hb dX10_numeral_538 (by decide) (fun c_538 => ?_) (fun c_538 => ?_)
                            · refine lv_bipush (v := 10) hx hb dX10_numeral_546 (by decide) ?_
                              exact J_548 10 (by simp [zr_st4, c_29, eq_true c_124, eq_true c_230, eq_true c_234, eq_true c_240, eq_true c_335, eq_true c_396, eq_true c_405, c_439, eq_true c_484, eq_true c_514, c_522, c_538, hr1, hr30])
                            · refine lv_bipush (v := 8) hx hb dX10_numeral_541 (by decide) ?_
                              refine lv_goto (tgt := 548) hx hb dX10_numeral_543 (by decide) ?_
                              exact J_548 8 (by simp [zr_st4, c_29, eq_true c_124, eq_true c_230, eq_true c_234, eq_true c_240, eq_true c_335, eq_true c_396, eq_true c_405, c_439, eq_true c_484, eq_true c_514, c_522, eq_true c_538, hr1, hr30])
                          · refine lv_aload_n hx hb dX10_numeral_525 rfl (lv_at hl 2 rfl) ?_
                            refine za_cv (wc := zm_ws g h ad M) (wr := []) C hP hD hS [0, 1, 2, 3, 4, 5, 6, 7, 8, 9, 10, 11, 12, 13, 14, 15, 16, 17] [] rfl rfl (by decide) (by decide) (za_runV C hP hD hS [0, 1, 2, 3, 4, 5, 6, 7, 8, 9, 10, 11, 12, 13, 14, 15, 16, 17] rfl (by decide) rfl (kX10_error l g E h ad M  ) w_1010 mX10_error 0 rfl rfl rfl rfl hl.1 rfl (Nat.le_of_ble_eq_true rfl) dX10_numeral_526 ⟨by decide, by decide⟩ ⟨by decide, by decide⟩) (fun M33 H locs hM33 hP hD hS => ?_)
                            have hP : va_P g.1 vwCl (zm_ws g h ad M33) H := hP
                            have hD : va_D A (zm_ws g h ad M33) := hD
                            refine lv_goto (tgt := 584) hx hb dX10_numeral_529 (by decide) ?_
                            subst hM33
                            subst hr30
                            subst hv_22
                            subst hr1
                            exact zm_rv hQ hx hb hr hlocks hK hP hD hS (by simp [zm_numeral, zq_upd, c_29, eq_true c_124, eq_true c_230, eq_true c_234, eq_true c_240, eq_true c_335, eq_true c_396, eq_true c_405, c_439, eq_true c_484, eq_true c_514, eq_true c_522]) dX10_numeral_584
                      · refine lv_aload_n hx hb dX10_numeral_487 rfl (lv_at hl 2 rfl) ?_
                        refine va_get (ci := 9) (v := .int (M.1 21)) hx hb hts iX10 hown hK hP 0 rfl rfl 21 (by decide) (hts _ w_832) (fun _ h9 => h9) rfl dX10_numeral_488 ?_
                        refine lv_bipush (v := 10) hx hb dX10_numeral_491 (by decide) ?_
                        refine lv_icmp_eq (tgt := 510) hx hb dX10_numeral_493 (by decide) (fun c_493 => ?_) (fun c_493 => ?_)
                        · refine lv_iload_n hx hb dX10_numeral_510 rfl (lv_at hl 3 rfl) ?_
                          refine za_ci (wc := []) (wr := zm_ws g h ad M) C hP hD hS [] [0, 1, 2, 3, 4, 5, 6, 7, 8, 9, 10, 11, 12, 13, 14, 15, 16, 17] rfl rfl (by decide) (by decide) (za_runS C hP hD hS [] rfl (by decide) rfl (kX10_letter l g E  x ) w_993 mX10_letter rfl hl.1 rfl (Nat.le_of_ble_eq_true rfl) dX10_numeral_511 ⟨by decide, by decide⟩ ⟨by decide, by decide⟩) (fun r34 _ H locs hr34 hP hD hS => ?_)
                          have hP : va_P g.1 vwCl (zm_ws g h ad M) H := hP
                          have hD : va_D A (zm_ws g h ad M) := hD
                          refine lv_if_ne (tgt := 525) hx hb dX10_numeral_514 (by decide) (fun c_514 => ?_) (fun c_514 => ?_)
                          · refine lv_aload_n hx hb dX10_numeral_525 rfl (lv_at hl 2 rfl) ?_
                            refine za_cv (wc := zm_ws g h ad M) (wr := []) C hP hD hS [0, 1, 2, 3, 4, 5, 6, 7, 8, 9, 10, 11, 12, 13, 14, 15, 16, 17] [] rfl rfl (by decide) (by decide) (za_runV C hP hD hS [0, 1, 2, 3, 4, 5, 6, 7, 8, 9, 10, 11, 12, 13, 14, 15, 16, 17] rfl (by decide) rfl (kX10_error l g E h ad M  ) w_1010 mX10_error 0 rfl rfl rfl rfl hl.1 rfl (Nat.le_of_ble_eq_true rfl) dX10_numeral_526 ⟨by decide, by decide⟩ ⟨by decide, by decide⟩) (fun M35 H locs hM35 hP hD hS => ?_)
                            have hP : va_P g.1 vwCl (zm_ws g h ad M35) H := hP
                            have hD : va_D A (zm_ws g h ad M35) := hD
                            refine lv_goto (tgt := 584) hx hb dX10_numeral_529 (by decide) ?_
                            subst hM35
                            subst hr34
                            subst hv_22
                            subst hr1
                            exact zm_rv hQ hx hb hr hlocks hK hP hD hS (by simp [zm_numeral, zq_upd, c_29, eq_true c_124, eq_true c_230, eq_true c_234, eq_true c_240, eq_true c_335, eq_true c_396, eq_true c_405, c_439, c_484, eq_true c_493, c_514]) dX10_numeral_584
                          · refine lv_aload_n hx hb dX10_numeral_517 rfl (lv_at hl 2 rfl) ?_
                            refine va_get (ci := 9) (v := .int (M.1 21)) hx hb hts iX10 hown hK hP 0 rfl rfl 21 (by decide) (hts _ w_832) (fun _ h9 => h9) rfl dX10_numeral_518 ?_
                            refine lv_iconst (v := 4) hx hb dX10_numeral_521 (by decide) ?_
                            refine lv_icmp_ne (tgt := 532) hx hb dX10_numeral_522 (by decide) (fun c_522 => ?_) (fun c_522 => ?_)
                            · refine lv_aload_n hx hb dX10_numeral_532 rfl (lv_at hl 2 rfl) ?_
                              have J_548 : ∀ v9 : Int32, v9 = (zr_st4 (M.1 21)) → W p l e (za_R 7 0 0) s m args below meth co H locs 0 0 Q (F0 m 548 ls (.int v9 :: [.ref h])) := by
                                intro v_548 hv_548
                                refine va_put (ci := 9) (fs := zm_fs ad M.1) (v := .int v_548) hx hb hts iX10 tyX10 tyX10_ok nmX10 hown hK hP hD hS 0 rfl rfl 22 (by decide) (hts _ w_833) (fun _ h9 => h9) rfl (tyX10_ok 22 (by decide)) rfl rfl (Nat.le_of_ble_eq_true rfl) dX10_numeral_548 (fun H locs hP hD hS => ?_)
                                have hP := zm_pf22 (X := M) hP
                                have hD := zm_df22 (X := M) hD
                                refine lv_aload_n hx hb dX10_numeral_551 rfl (lv_at hl 2 rfl) ?_
                                have J_581 : ∀ v9 : Int32, v9 = (zr_st5 (M.1 21)) → W p l e (za_R 7 0 0) s m args below meth co H locs 0 0 Q (F0 m 581 ls (.int v9 :: [.ref h])) := by
                                  intro v_581 hv_581
                                  refine za_cv (wc := zm_ws g h ad (zm_s M 22 v_548)) (wr := []) C hP hD hS [0, 1, 2, 3, 4, 5, 6, 7, 8, 9, 10, 11, 12, 13, 14, 15, 16, 17] [] rfl rfl (by decide) (by decide) (za_runV C hP hD hS [0, 1, 2, 3, 4, 5, 6, 7, 8, 9, 10, 11, 12, 13, 14, 15, 16, 17] rfl (by decide) rfl (kX10_ends l g E h ad (zm_s M 22 v_548) v_581 hT hB) w_1042 mX10_ends 0 rfl rfl rfl rfl hl.1 rfl (Nat.le_of_ble_eq_true rfl) dX10_numeral_581 ⟨by decide, by decide⟩ ⟨by decide, by decide⟩) (fun M36 H locs hM36 hP hD hS => ?_)
                                  have hP : va_P g.1 vwCl (zm_ws g h ad M36) H := hP
                                  have hD : va_D A (zm_ws g h ad M36) := hD
                                  subst hM36
                                  subst hv_581
                                  subst hv_548
                                  subst hr34
                                  subst hv_22
                                  subst hr1
                                  exact zm_rv hQ hx hb hr hlocks hK hP hD hS (by simp [zm_numeral, zq_upd, c_29, eq_true c_124, eq_true c_230, eq_true c_234, eq_true c_240, eq_true c_335, eq_true c_396, eq_true c_405, c_439, c_484, eq_true c_493, eq_true c_514, c_522]) dX10_numeral_584
                                refine lv_aload_n hx hb dX10_numeral_552 rfl (lv_at hl 2 rfl) ?_
                                refine va_get (ci := 9) (v := .int (M.1 21)) hx hb hts iX10 hown hK hP 0 rfl rfl 21 (by decide) (hts _ w_832) (fun _ h9 => h9) rfl dX10_numeral_553 ?_
                                refine lv_iconst (v := 2) hx hb dX10_numeral_556 (by decide) ?_
                                refine lv_icmp_eq (tgt := 576) hx hb dX10_numeral_557 (by decide) (fun c_557 => ?_) (fun c_557 => ?_)
                                · refine lv_iconst (v := 1) hx hb dX10_numeral_576 (by decide) ?_
                                  refine lv_goto (tgt := 581) hx hb dX10_numeral_577 (by decide) ?_
                                  exact J_581 1 (by simp [zr_st5, c_29, eq_true c_124, eq_true c_230, eq_true c_234, eq_true c_240, eq_true c_335, eq_true c_396, eq_true c_405, c_439, c_484, eq_true c_493, eq_true c_514, c_522, eq_true c_557, hr1, hr34])
                                · exact absurd c_230 c_557
                              refine lv_aload_n hx hb dX10_numeral_533 rfl (lv_at hl 2 rfl) ?_
                              refine va_get (ci := 9) (v := .int (M.1 21)) hx hb hts iX10 hown hK hP 0 rfl rfl 21 (by decide) (hts _ w_832) (fun _ h9 => h9) rfl dX10_numeral_534 ?_
                              refine lv_iconst (v := 3) hx hb dX10_numeral_537 (by decide) ?_
                              refine lv_icmp_ne (tgt := 546) hx hb dX10_numeral_538 (by decide) (fun c_538 => ?_) (fun c_538 => ?_)
                              · refine lv_bipush (v := 10) hx hb dX10_numeral_546 (by decide) ?_
                                exact J_548 10 (by simp [zr_st4, c_29, eq_true c_124, eq_true c_230, eq_true c_234, eq_true c_240, eq_true c_335, eq_true c_396, eq_true c_405, c_439, c_484, eq_true c_493, eq_true c_514, c_522, c_538, hr1, hr34])
                              · refine lv_bipush (v := 8) hx hb dX10_numeral_541 (by decide) ?_
                                refine lv_goto (tgt := 548) hx hb dX10_numeral_543 (by decide) ?_
                                exact J_548 8 (by simp [zr_st4, c_29, eq_true c_124, eq_true c_230, eq_true c_234, eq_true c_240, eq_true c_335, eq_true c_396, eq_true c_405, c_439, c_484, eq_true c_493, eq_true c_514, c_522, eq_true c_538, hr1, hr34])
                            · refine lv_aload_n hx hb dX10_numeral_525 rfl (lv_at hl 2 rfl) ?_
                              refine za_cv (wc := zm_ws g h ad M) (wr := []) C hP hD hS [0, 1, 2, 3, 4, 5, 6, 7, 8, 9, 10, 11, 12, 13, 14, 15, 16, 17] [] rfl rfl (by decide) (by decide) (za_runV C hP hD hS [0, 1, 2, 3, 4, 5, 6, 7, 8, 9, 10, 11, 12, 13, 14, 15, 16, 17] rfl (by decide) rfl (kX10_error l g E h ad M  ) w_1010 mX10_error 0 rfl rfl rfl rfl hl.1 rfl (Nat.le_of_ble_eq_true rfl) dX10_numeral_526 ⟨by decide, by decide⟩ ⟨by decide, by decide⟩) (fun M37 H locs hM37 hP hD hS => ?_)
                              have hP : va_P g.1 vwCl (zm_ws g h ad M37) H := hP
                              have hD : va_D A (zm_ws g h ad M37) := hD
                              refine lv_goto (tgt := 584) hx hb dX10_numeral_529 (by decide) ?_
                              subst hM37
                              subst hr34
                              subst hv_22
                              subst hr1
                              exact zm_rv hQ hx hb hr hlocks hK hP hD hS (by simp [zm_numeral, zq_upd, c_29, eq_true c_124, eq_true c_230, eq_true c_234, eq_true c_240, eq_true c_335, eq_true c_396, eq_true c_405, c_439, c_484, eq_true c_493, eq_true c_514, eq_true c_522]) dX10_numeral_584
                        · refine lv_aload_n hx hb dX10_numeral_496 rfl (lv_at hl 2 rfl) ?_
                          refine lv_bipush (v := 8) hx hb dX10_numeral_497 (by decide) ?_
                          refine va_put (ci := 9) (fs := zm_fs ad M.1) (v := .int 8) hx hb hts iX10 tyX10 tyX10_ok nmX10 hown hK hP hD hS 0 rfl rfl 21 (by decide) (hts _ w_832) (fun _ h9 => h9) rfl (tyX10_ok 21 (by decide)) rfl rfl (Nat.le_of_ble_eq_true rfl) dX10_numeral_499 (fun H locs hP hD hS => ?_)
                          have hP := zm_pf21 (X := M) hP
                          have hD := zm_df21 (X := M) hD
                          refine lv_aload_n hx hb dX10_numeral_502 rfl (lv_at hl 2 rfl) ?_
                          refine lv_iconst (v := 1) hx hb dX10_numeral_503 (by decide) ?_
                          refine va_put (ci := 9) (fs := zm_fs ad (zm_s M 21 8).1) (v := .int 1) hx hb hts iX10 tyX10 tyX10_ok nmX10 hown hK hP hD hS 0 rfl rfl 26 (by decide) (hts _ w_837) (fun _ h9 => h9) rfl (tyX10_ok 26 (by decide)) rfl rfl (Nat.le_of_ble_eq_true rfl) dX10_numeral_504 (fun H locs hP hD hS => ?_)
                          have hP := zm_pf26 (X := zm_s M 21 8) hP
                          have hD := zm_df26 (X := zm_s M 21 8) hD
                          refine lv_goto (tgt := 584) hx hb dX10_numeral_507 (by decide) ?_
                          subst hv_22
                          subst hr1
                          exact zm_rv hQ hx hb hr hlocks hK hP hD hS (by simp [zm_numeral, zq_upd, c_29, eq_true c_124, eq_true c_230, eq_true c_234, eq_true c_240, eq_true c_335, eq_true c_396, eq_true c_405, c_439, c_484, c_493]) dX10_numeral_584
                    · refine lv_aload_n hx hb dX10_numeral_442 rfl (lv_at hl 2 rfl) ?_
                      refine va_get (ci := 9) (v := .int (M.1 21)) hx hb hts iX10 hown hK hP 0 rfl rfl 21 (by decide) (hts _ w_832) (fun _ h9 => h9) rfl dX10_numeral_443 ?_
                      refine lv_iconst (v := 2) hx hb dX10_numeral_446 (by decide) ?_
                      refine lv_icmp_eq (tgt := 474) hx hb dX10_numeral_447 (by decide) (fun c_447 => ?_) (fun c_447 => ?_)
                      · refine lv_aload_n hx hb dX10_numeral_474 rfl (lv_at hl 2 rfl) ?_
                        refine lv_bipush (v := 6) hx hb dX10_numeral_475 (by decide) ?_
                        refine va_put (ci := 9) (fs := zm_fs ad M.1) (v := .int 6) hx hb hts iX10 tyX10 tyX10_ok nmX10 hown hK hP hD hS 0 rfl rfl 21 (by decide) (hts _ w_832) (fun _ h9 => h9) rfl (tyX10_ok 21 (by decide)) rfl rfl (Nat.le_of_ble_eq_true rfl) dX10_numeral_477 (fun H locs hP hD hS => ?_)
                        have hP := zm_pf21 (X := M) hP
                        have hD := zm_df21 (X := M) hD
                        refine lv_goto (tgt := 584) hx hb dX10_numeral_480 (by decide) ?_
                        subst hv_22
                        subst hr1
                        exact zm_rv hQ hx hb hr hlocks hK hP hD hS (by simp [zm_numeral, zq_upd, c_29, eq_true c_124, eq_true c_230, eq_true c_234, eq_true c_240, eq_true c_335, eq_true c_396, eq_true c_405, eq_true c_439, eq_true c_447]) dX10_numeral_584
                      · exact absurd c_230 c_447
                  · refine lv_aload_n hx hb dX10_numeral_408 rfl (lv_at hl 2 rfl) ?_
                    have J_425 : ∀ v9 : Int32, v9 = (zr_st3 (M.1 21)) → W p l e (za_R 7 0 0) s m args below meth co H locs 0 0 Q (F0 m 425 ls (.int v9 :: [.ref h])) := by
                      intro v_425 hv_425
                      refine va_put (ci := 9) (fs := zm_fs ad M.1) (v := .int v_425) hx hb hts iX10 tyX10 tyX10_ok nmX10 hown hK hP hD hS 0 rfl rfl 21 (by decide) (hts _ w_832) (fun _ h9 => h9) rfl (tyX10_ok 21 (by decide)) rfl rfl (Nat.le_of_ble_eq_true rfl) dX10_numeral_425 (fun H locs hP hD hS => ?_)
                      have hP := zm_pf21 (X := M) hP
                      have hD := zm_df21 (X := M) hD
                      refine lv_aload_n hx hb dX10_numeral_428 rfl (lv_at hl 2 rfl) ?_
                      refine lv_iconst (v := 1) hx hb dX10_numeral_429 (by decide) ?_
                      refine va_put (ci := 9) (fs := zm_fs ad (zm_s M 21 v_425).1) (v := .int 1) hx hb hts iX10 tyX10 tyX10_ok nmX10 hown hK hP hD hS 0 rfl rfl 26 (by decide) (hts _ w_837) (fun _ h9 => h9) rfl (tyX10_ok 26 (by decide)) rfl rfl (Nat.le_of_ble_eq_true rfl) dX10_numeral_430 (fun H locs hP hD hS => ?_)
                      have hP := zm_pf26 (X := zm_s M 21 v_425) hP
                      have hD := zm_df26 (X := zm_s M 21 v_425) hD
                      refine lv_goto (tgt := 584) hx hb dX10_numeral_433 (by decide) ?_
                      subst hv_425
                      subst hv_22
                      subst hr1
                      exact zm_rv hQ hx hb hr hlocks hK hP hD hS (by simp [zm_numeral, zq_upd, c_29, eq_true c_124, eq_true c_230, eq_true c_234, eq_true c_240, eq_true c_335, eq_true c_396, c_405]) dX10_numeral_584
                    refine lv_aload_n hx hb dX10_numeral_409 rfl (lv_at hl 2 rfl) ?_
                    refine va_get (ci := 9) (v := .int (M.1 21)) hx hb hts iX10 hown hK hP 0 rfl rfl 21 (by decide) (hts _ w_832) (fun _ h9 => h9) rfl dX10_numeral_410 ?_
                    refine lv_iconst (v := 2) hx hb dX10_numeral_413 (by decide) ?_
                    refine lv_icmp_ne (tgt := 421) hx hb dX10_numeral_414 (by decide) (fun c_414 => ?_) (fun c_414 => ?_)
                    · exact absurd c_230 c_414
                    · refine lv_iconst (v := 3) hx hb dX10_numeral_417 (by decide) ?_
                      refine lv_goto (tgt := 425) hx hb dX10_numeral_418 (by decide) ?_
                      exact J_425 3 (by simp [zr_st3, c_29, eq_true c_124, eq_true c_230, eq_true c_234, eq_true c_240, eq_true c_335, eq_true c_396, c_405, eq_true c_414, hr1])
              · exact absurd c_234 c_335
            · refine lv_iload_n hx hb dX10_numeral_243 rfl (lv_at hl 3 rfl) ?_
              refine za_ci (wc := []) (wr := zm_ws g h ad M) C hP hD hS [] [0, 1, 2, 3, 4, 5, 6, 7, 8, 9, 10, 11, 12, 13, 14, 15, 16, 17] rfl rfl (by decide) (by decide) (za_runS C hP hD hS [] rfl (by decide) rfl (kX10_letter l g E  x ) w_993 mX10_letter rfl hl.1 rfl (Nat.le_of_ble_eq_true rfl) dX10_numeral_244 ⟨by decide, by decide⟩ ⟨by decide, by decide⟩) (fun r38 _ H locs hr38 hP hD hS => ?_)
              have hP : va_P g.1 vwCl (zm_ws g h ad M) H := hP
              have hD : va_D A (zm_ws g h ad M) := hD
              refine lv_if_eq (tgt := 334) hx hb dX10_numeral_247 (by decide) (fun c_247 => ?_) (fun c_247 => ?_)
              · refine lv_iload_n hx hb dX10_numeral_334 rfl (lv_at hl 1 rfl) ?_
                refine lv_if_eq (tgt := 393) hx hb dX10_numeral_335 (by decide) (fun c_335 => ?_) (fun c_335 => ?_)
                · refine lv_iload_n hx hb dX10_numeral_393 rfl (lv_at hl 3 rfl) ?_
                  refine lv_bipush (v := 95) hx hb dX10_numeral_394 (by decide) ?_
                  refine lv_icmp_ne (tgt := 436) hx hb dX10_numeral_396 (by decide) (fun c_396 => ?_) (fun c_396 => ?_)
                  · refine lv_iload_n hx hb dX10_numeral_436 rfl (lv_at hl 3 rfl) ?_
                    refine lv_bipush (v := 46) hx hb dX10_numeral_437 (by decide) ?_
                    refine lv_icmp_ne (tgt := 483) hx hb dX10_numeral_439 (by decide) (fun c_439 => ?_) (fun c_439 => ?_)
                    · refine lv_iload_n hx hb dX10_numeral_483 rfl (lv_at hl 0 rfl) ?_
                      refine lv_if_eq (tgt := 510) hx hb dX10_numeral_484 (by decide) (fun c_484 => ?_) (fun c_484 => ?_)
                      · refine lv_iload_n hx hb dX10_numeral_510 rfl (lv_at hl 3 rfl) ?_
                        refine za_ci (wc := []) (wr := zm_ws g h ad M) C hP hD hS [] [0, 1, 2, 3, 4, 5, 6, 7, 8, 9, 10, 11, 12, 13, 14, 15, 16, 17] rfl rfl (by decide) (by decide) (za_runS C hP hD hS [] rfl (by decide) rfl (kX10_letter l g E  x ) w_993 mX10_letter rfl hl.1 rfl (Nat.le_of_ble_eq_true rfl) dX10_numeral_511 ⟨by decide, by decide⟩ ⟨by decide, by decide⟩) (fun r39 _ H locs hr39 hP hD hS => ?_)
                        have hq39 : r38 = r39 := hr38.trans hr39.symm
                        subst hq39
                        have hP : va_P g.1 vwCl (zm_ws g h ad M) H := hP
                        have hD : va_D A (zm_ws g h ad M) := hD
                        refine lv_if_ne (tgt := 525) hx hb dX10_numeral_514 (by decide) (fun c_514 => ?_) (fun c_514 => ?_)
                        · exact absurd c_247 c_514
                        · refine lv_aload_n hx hb dX10_numeral_517 rfl (lv_at hl 2 rfl) ?_
                          refine va_get (ci := 9) (v := .int (M.1 21)) hx hb hts iX10 hown hK hP 0 rfl rfl 21 (by decide) (hts _ w_832) (fun _ h9 => h9) rfl dX10_numeral_518 ?_
                          refine lv_iconst (v := 4) hx hb dX10_numeral_521 (by decide) ?_
                          refine lv_icmp_ne (tgt := 532) hx hb dX10_numeral_522 (by decide) (fun c_522 => ?_) (fun c_522 => ?_)
                          · refine lv_aload_n hx hb dX10_numeral_532 rfl (lv_at hl 2 rfl) ?_
                            have J_548 : ∀ v9 : Int32, v9 = (zr_st4 (M.1 21)) → W p l e (za_R 7 0 0) s m args below meth co H locs 0 0 Q (F0 m 548 ls (.int v9 :: [.ref h])) := by
                              intro v_548 hv_548
                              refine va_put (ci := 9) (fs := zm_fs ad M.1) (v := .int v_548) hx hb hts iX10 tyX10 tyX10_ok nmX10 hown hK hP hD hS 0 rfl rfl 22 (by decide) (hts _ w_833) (fun _ h9 => h9) rfl (tyX10_ok 22 (by decide)) rfl rfl (Nat.le_of_ble_eq_true rfl) dX10_numeral_548 (fun H locs hP hD hS => ?_)
                              have hP := zm_pf22 (X := M) hP
                              have hD := zm_df22 (X := M) hD
                              refine lv_aload_n hx hb dX10_numeral_551 rfl (lv_at hl 2 rfl) ?_
                              have J_581 : ∀ v9 : Int32, v9 = (zr_st5 (M.1 21)) → W p l e (za_R 7 0 0) s m args below meth co H locs 0 0 Q (F0 m 581 ls (.int v9 :: [.ref h])) := by
                                intro v_581 hv_581
                                refine za_cv (wc := zm_ws g h ad (zm_s M 22 v_548)) (wr := []) C hP hD hS [0, 1, 2, 3, 4, 5, 6, 7, 8, 9, 10, 11, 12, 13, 14, 15, 16, 17] [] rfl rfl (by decide) (by decide) (za_runV C hP hD hS [0, 1, 2, 3, 4, 5, 6, 7, 8, 9, 10, 11, 12, 13, 14, 15, 16, 17] rfl (by decide) rfl (kX10_ends l g E h ad (zm_s M 22 v_548) v_581 hT hB) w_1042 mX10_ends 0 rfl rfl rfl rfl hl.1 rfl (Nat.le_of_ble_eq_true rfl) dX10_numeral_581 ⟨by decide, by decide⟩ ⟨by decide, by decide⟩) (fun M40 H locs hM40 hP hD hS => ?_)
                                have hP : va_P g.1 vwCl (zm_ws g h ad M40) H := hP
                                have hD : va_D A (zm_ws g h ad M40) := hD
                                subst hM40
                                subst hv_581
                                subst hv_548
                                subst hr38
                                subst hv_22
                                subst hr1
                                exact zm_rv hQ hx hb hr hlocks hK hP hD hS (by simp [zm_numeral, zq_upd, c_29, eq_true c_124, eq_true c_230, eq_true c_234, c_240, eq_true c_247, eq_true c_335, c_396, c_439, eq_true c_484, eq_true c_514, c_522]) dX10_numeral_584
                              refine lv_aload_n hx hb dX10_numeral_552 rfl (lv_at hl 2 rfl) ?_
                              refine va_get (ci := 9) (v := .int (M.1 21)) hx hb hts iX10 hown hK hP 0 rfl rfl 21 (by decide) (hts _ w_832) (fun _ h9 => h9) rfl dX10_numeral_553 ?_
                              refine lv_iconst (v := 2) hx hb dX10_numeral_556 (by decide) ?_
                              refine lv_icmp_eq (tgt := 576) hx hb dX10_numeral_557 (by decide) (fun c_557 => ?_) (fun c_557 => ?_)
                              · refine lv_iconst (v := 1) hx hb dX10_numeral_576 (by decide) ?_
                                refine lv_goto (tgt := 581) hx hb dX10_numeral_577 (by decide) ?_
                                exact J_581 1 (by simp [zr_st5, c_29, eq_true c_124, eq_true c_230, eq_true c_234, c_240, eq_true c_247, eq_true c_335, c_396, c_439, eq_true c_484, eq_true c_514, c_522, eq_true c_557, hr1, hr38])
                              · exact absurd c_230 c_557
                            refine lv_aload_n hx hb dX10_numeral_533 rfl (lv_at hl 2 rfl) ?_
                            refine va_get (ci := 9) (v := .int (M.1 21)) hx hb hts iX10 hown hK hP 0 rfl rfl 21 (by decide) (hts _ w_832) (fun _ h9 => h9) rfl dX10_numeral_534 ?_
                            refine lv_iconst (v := 3) hx hb dX10_numeral_537 (by decide) ?_
                            refine lv_icmp_ne (tgt := 546) hx hb dX10_numeral_538 (by decide) (fun c_538 => ?_) (fun c_538 => ?_)
                            · refine lv_bipush (v := 10) hx hb dX10_numeral_546 (by decide) ?_
                              exact J_548 10 (by simp [zr_st4, c_29, eq_true c_124, eq_true c_230, eq_true c_234, c_240, eq_true c_247, eq_true c_335, c_396, c_439, eq_true c_484, eq_true c_514, c_522, c_538, hr1, hr38])
                            · refine lv_bipush (v := 8) hx hb dX10_numeral_541 (by decide) ?_
                              refine lv_goto (tgt := 548) hx hb dX10_numeral_543 (by decide) ?_
                              exact J_548 8 (by simp [zr_st4, c_29, eq_true c_124, eq_true c_230, eq_true c_234, c_240, eq_true c_247, eq_true c_335, c_396, c_439, eq_true c_484, eq_true c_514, c_522, eq_true c_538, hr1, hr38])
                          · refine lv_aload_n hx hb dX10_numeral_525 rfl (lv_at hl 2 rfl) ?_
                            refine za_cv (wc := zm_ws g h ad M) (wr := []) C hP hD hS [0, 1, 2, 3, 4, 5, 6, 7, 8, 9, 10, 11, 12, 13, 14, 15, 16, 17] [] rfl rfl (by decide) (by decide) (za_runV C hP hD hS [0, 1, 2, 3, 4, 5, 6, 7, 8, 9, 10, 11, 12, 13, 14, 15, 16, 17] rfl (by decide) rfl (kX10_error l g E h ad M  ) w_1010 mX10_error 0 rfl rfl rfl rfl hl.1 rfl (Nat.le_of_ble_eq_true rfl) dX10_numeral_526 ⟨by decide, by decide⟩ ⟨by decide, by decide⟩) (fun M41 H locs hM41 hP hD hS => ?_)
                            have hP : va_P g.1 vwCl (zm_ws g h ad M41) H := hP
                            have hD : va_D A (zm_ws g h ad M41) := hD
                            refine lv_goto (tgt := 584) hx hb dX10_numeral_529 (by decide) ?_
                            subst hM41
                            subst hr38
                            subst hv_22
                            subst hr1
                            exact zm_rv hQ hx hb hr hlocks hK hP hD hS (by simp [zm_numeral, zq_upd, c_29, eq_true c_124, eq_true c_230, eq_true c_234, c_240, eq_true c_247, eq_true c_335, c_396, c_439, eq_true c_484, eq_true c_514, eq_true c_522]) dX10_numeral_584
                      · refine lv_aload_n hx hb dX10_numeral_487 rfl (lv_at hl 2 rfl) ?_
                        refine va_get (ci := 9) (v := .int (M.1 21)) hx hb hts iX10 hown hK hP 0 rfl rfl 21 (by decide) (hts _ w_832) (fun _ h9 => h9) rfl dX10_numeral_488 ?_
                        refine lv_bipush (v := 10) hx hb dX10_numeral_491 (by decide) ?_
                        refine lv_icmp_eq (tgt := 510) hx hb dX10_numeral_493 (by decide) (fun c_493 => ?_) (fun c_493 => ?_)
                        · refine lv_iload_n hx hb dX10_numeral_510 rfl (lv_at hl 3 rfl) ?_
                          refine za_ci (wc := []) (wr := zm_ws g h ad M) C hP hD hS [] [0, 1, 2, 3, 4, 5, 6, 7, 8, 9, 10, 11, 12, 13, 14, 15, 16, 17] rfl rfl (by decide) (by decide) (za_runS C hP hD hS [] rfl (by decide) rfl (kX10_letter l g E  x ) w_993 mX10_letter rfl hl.1 rfl (Nat.le_of_ble_eq_true rfl) dX10_numeral_511 ⟨by decide, by decide⟩ ⟨by decide, by decide⟩) (fun r42 _ H locs hr42 hP hD hS => ?_)
                          have hq42 : r38 = r42 := hr38.trans hr42.symm
                          subst hq42
                          have hP : va_P g.1 vwCl (zm_ws g h ad M) H := hP
                          have hD : va_D A (zm_ws g h ad M) := hD
                          refine lv_if_ne (tgt := 525) hx hb dX10_numeral_514 (by decide) (fun c_514 => ?_) (fun c_514 => ?_)
                          · exact absurd c_247 c_514
                          · refine lv_aload_n hx hb dX10_numeral_517 rfl (lv_at hl 2 rfl) ?_
                            refine va_get (ci := 9) (v := .int (M.1 21)) hx hb hts iX10 hown hK hP 0 rfl rfl 21 (by decide) (hts _ w_832) (fun _ h9 => h9) rfl dX10_numeral_518 ?_
                            refine lv_iconst (v := 4) hx hb dX10_numeral_521 (by decide) ?_
                            refine lv_icmp_ne (tgt := 532) hx hb dX10_numeral_522 (by decide) (fun c_522 => ?_) (fun c_522 => ?_)
                            · refine lv_aload_n hx hb dX10_numeral_532 rfl (lv_at hl 2 rfl) ?_
                              have J_548 : ∀ v9 : Int32, v9 = (zr_st4 (M.1 21)) → W p l e (za_R 7 0 0) s m args below meth co H locs 0 0 Q (F0 m 548 ls (.int v9 :: [.ref h])) := by
                                intro v_548 hv_548
                                refine va_put (ci := 9) (fs := zm_fs ad M.1) (v := .int v_548) hx hb hts iX10 tyX10 tyX10_ok nmX10 hown hK hP hD hS 0 rfl rfl 22 (by decide) (hts _ w_833) (fun _ h9 => h9) rfl (tyX10_ok 22 (by decide)) rfl rfl (Nat.le_of_ble_eq_true rfl) dX10_numeral_548 (fun H locs hP hD hS => ?_)
                                have hP := zm_pf22 (X := M) hP
                                have hD := zm_df22 (X := M) hD
                                refine lv_aload_n hx hb dX10_numeral_551 rfl (lv_at hl 2 rfl) ?_
                                have J_581 : ∀ v9 : Int32, v9 = (zr_st5 (M.1 21)) → W p l e (za_R 7 0 0) s m args below meth co H locs 0 0 Q (F0 m 581 ls (.int v9 :: [.ref h])) := by
                                  intro v_581 hv_581
                                  refine za_cv (wc := zm_ws g h ad (zm_s M 22 v_548)) (wr := []) C hP hD hS [0, 1, 2, 3, 4, 5, 6, 7, 8, 9, 10, 11, 12, 13, 14, 15, 16, 17] [] rfl rfl (by decide) (by decide) (za_runV C hP hD hS [0, 1, 2, 3, 4, 5, 6, 7, 8, 9, 10, 11, 12, 13, 14, 15, 16, 17] rfl (by decide) rfl (kX10_ends l g E h ad (zm_s M 22 v_548) v_581 hT hB) w_1042 mX10_ends 0 rfl rfl rfl rfl hl.1 rfl (Nat.le_of_ble_eq_true rfl) dX10_numeral_581 ⟨by decide, by decide⟩ ⟨by decide, by decide⟩) (fun M43 H locs hM43 hP hD hS => ?_)
                                  have hP : va_P g.1 vwCl (zm_ws g h ad M43) H := hP
                                  have hD : va_D A (zm_ws g h ad M43) := hD
                                  subst hM43
                                  subst hv_581
                                  subst hv_548
                                  subst hr38
                                  subst hv_22
                                  subst hr1
                                  exact zm_rv hQ hx hb hr hlocks hK hP hD hS (by simp [zm_numeral, zq_upd, c_29, eq_true c_124, eq_true c_230, eq_true c_234, c_240, eq_true c_247, eq_true c_335, c_396, c_439, c_484, eq_true c_493, eq_true c_514, c_522]) dX10_numeral_584
                                refine lv_aload_n hx hb dX10_numeral_552 rfl (lv_at hl 2 rfl) ?_
                                refine va_get (ci := 9) (v := .int (M.1 21)) hx hb hts iX10 hown hK hP 0 rfl rfl 21 (by decide) (hts _ w_832) (fun _ h9 => h9) rfl dX10_numeral_553 ?_
                                refine lv_iconst (v := 2) hx hb dX10_numeral_556 (by decide) ?_
                                refine lv_icmp_eq (tgt := 576) hx hb dX10_numeral_557 (by decide) (fun c_557 => ?_) (fun c_557 => ?_)
                                · refine lv_iconst (v := 1) hx hb dX10_numeral_576 (by decide) ?_
                                  refine lv_goto (tgt := 581) hx hb dX10_numeral_577 (by decide) ?_
                                  exact J_581 1 (by simp [zr_st5, c_29, eq_true c_124, eq_true c_230, eq_true c_234, c_240, eq_true c_247, eq_true c_335, c_396, c_439, c_484, eq_true c_493, eq_true c_514, c_522, eq_true c_557, hr1, hr38])
                                · exact absurd c_230 c_557
                              refine lv_aload_n hx hb dX10_numeral_533 rfl (lv_at hl 2 rfl) ?_
                              refine va_get (ci := 9) (v := .int (M.1 21)) hx hb hts iX10 hown hK hP 0 rfl rfl 21 (by decide) (hts _ w_832) (fun _ h9 => h9) rfl dX10_numeral_534 ?_
                              refine lv_iconst (v := 3) hx hb dX10_numeral_537 (by decide) ?_
                              refine lv_icmp_ne (tgt := 546) hx hb dX10_numeral_538 (by decide) (fun c_538 => ?_) (fun c_538 => ?_)
                              · refine lv_bipush (v := 10) hx hb dX10_numeral_546 (by decide) ?_
                                exact J_548 10 (by simp [zr_st4, c_29, eq_true c_124, eq_true c_230, eq_true c_234, c_240, eq_true c_247, eq_true c_335, c_396, c_439, c_484, eq_true c_493, eq_true c_514, c_522, c_538, hr1, hr38])
                              · refine lv_bipush (v := 8) hx hb dX10_numeral_541 (by decide) ?_
                                refine lv_goto (tgt := 548) hx hb dX10_numeral_543 (by decide) ?_
                                exact J_548 8 (by simp [zr_st4, c_29, eq_true c_124, eq_true c_230, eq_true c_234, c_240, eq_true c_247, eq_true c_335, c_396, c_439, c_484, eq_true c_493, eq_true c_514, c_522, eq_true c_538, hr1, hr38])
                            · refine lv_aload_n hx hb dX10_numeral_525 rfl (lv_at hl 2 rfl) ?_
                              refine za_cv (wc := zm_ws g h ad M) (wr := []) C hP hD hS [0, 1, 2, 3, 4, 5, 6, 7, 8, 9, 10, 11, 12, 13, 14, 15, 16, 17] [] rfl rfl (by decide) (by decide) (za_runV C hP hD hS [0, 1, 2, 3, 4, 5, 6, 7, 8, 9, 10, 11, 12, 13, 14, 15, 16, 17] rfl (by decide) rfl (kX10_error l g E h ad M  ) w_1010 mX10_error 0 rfl rfl rfl rfl hl.1 rfl (Nat.le_of_ble_eq_true rfl) dX10_numeral_526 ⟨by decide, by decide⟩ ⟨by decide, by decide⟩) (fun M44 H locs hM44 hP hD hS => ?_)
                              have hP : va_P g.1 vwCl (zm_ws g h ad M44) H := hP
                              have hD : va_D A (zm_ws g h ad M44) := hD
                              refine lv_goto (tgt := 584) hx hb dX10_numeral_529 (by decide) ?_
                              subst hM44
                              subst hr38
                              subst hv_22
                              subst hr1
                              exact zm_rv hQ hx hb hr hlocks hK hP hD hS (by simp [zm_numeral, zq_upd, c_29, eq_true c_124, eq_true c_230, eq_true c_234, c_240, eq_true c_247, eq_true c_335, c_396, c_439, c_484, eq_true c_493, eq_true c_514, eq_true c_522]) dX10_numeral_584
                        · refine lv_aload_n hx hb dX10_numeral_496 rfl (lv_at hl 2 rfl) ?_
                          refine lv_bipush (v := 8) hx hb dX10_numeral_497 (by decide) ?_
                          refine va_put (ci := 9) (fs := zm_fs ad M.1) (v := .int 8) hx hb hts iX10 tyX10 tyX10_ok nmX10 hown hK hP hD hS 0 rfl rfl 21 (by decide) (hts _ w_832) (fun _ h9 => h9) rfl (tyX10_ok 21 (by decide)) rfl rfl (Nat.le_of_ble_eq_true rfl) dX10_numeral_499 (fun H locs hP hD hS => ?_)
                          have hP := zm_pf21 (X := M) hP
                          have hD := zm_df21 (X := M) hD
                          refine lv_aload_n hx hb dX10_numeral_502 rfl (lv_at hl 2 rfl) ?_
                          refine lv_iconst (v := 1) hx hb dX10_numeral_503 (by decide) ?_
                          refine va_put (ci := 9) (fs := zm_fs ad (zm_s M 21 8).1) (v := .int 1) hx hb hts iX10 tyX10 tyX10_ok nmX10 hown hK hP hD hS 0 rfl rfl 26 (by decide) (hts _ w_837) (fun _ h9 => h9) rfl (tyX10_ok 26 (by decide)) rfl rfl (Nat.le_of_ble_eq_true rfl) dX10_numeral_504 (fun H locs hP hD hS => ?_)
                          have hP := zm_pf26 (X := zm_s M 21 8) hP
                          have hD := zm_df26 (X := zm_s M 21 8) hD
                          refine lv_goto (tgt := 584) hx hb dX10_numeral_507 (by decide) ?_
                          subst hr38
                          subst hv_22
                          subst hr1
                          exact zm_rv hQ hx hb hr hlocks hK hP hD hS (by simp [zm_numeral, zq_upd, c_29, eq_true c_124, eq_true c_230, eq_true c_234, c_240, eq_true c_247, eq_true c_335, c_396, c_439, c_484, c_493]) dX10_numeral_584
                    · refine lv_aload_n hx hb dX10_numeral_442 rfl (lv_at hl 2 rfl) ?_
                      refine va_get (ci := 9) (v := .int (M.1 21)) hx hb hts iX10 hown hK hP 0 rfl rfl 21 (by decide) (hts _ w_832) (fun _ h9 => h9) rfl dX10_numeral_443 ?_
                      refine lv_iconst (v := 2) hx hb dX10_numeral_446 (by decide) ?_
                      refine lv_icmp_eq (tgt := 474) hx hb dX10_numeral_447 (by decide) (fun c_447 => ?_) (fun c_447 => ?_)
                      · refine lv_aload_n hx hb dX10_numeral_474 rfl (lv_at hl 2 rfl) ?_
                        refine lv_bipush (v := 6) hx hb dX10_numeral_475 (by decide) ?_
                        refine va_put (ci := 9) (fs := zm_fs ad M.1) (v := .int 6) hx hb hts iX10 tyX10 tyX10_ok nmX10 hown hK hP hD hS 0 rfl rfl 21 (by decide) (hts _ w_832) (fun _ h9 => h9) rfl (tyX10_ok 21 (by decide)) rfl rfl (Nat.le_of_ble_eq_true rfl) dX10_numeral_477 (fun H locs hP hD hS => ?_)
                        have hP := zm_pf21 (X := M) hP
                        have hD := zm_df21 (X := M) hD
                        refine lv_goto (tgt := 584) hx hb dX10_numeral_480 (by decide) ?_
                        subst hr38
                        subst hv_22
                        subst hr1
                        exact zm_rv hQ hx hb hr hlocks hK hP hD hS (by simp [zm_numeral, zq_upd, c_29, eq_true c_124, eq_true c_230, eq_true c_234, c_240, eq_true c_247, eq_true c_335, c_396, eq_true c_439, eq_true c_447]) dX10_numeral_584
                      · exact absurd c_230 c_447
                  · exact absurd c_396 c_240
                · exact absurd c_234 c_335
              · refine lv_iload_n hx hb dX10_numeral_250 rfl (lv_at hl 0 rfl) ?_
                refine lv_if_ne (tgt := 334) hx hb dX10_numeral_251 (by decide) (fun c_251 => ?_) (fun c_251 => ?_)
                · refine lv_iload_n hx hb dX10_numeral_334 rfl (lv_at hl 1 rfl) ?_
                  refine lv_if_eq (tgt := 393) hx hb dX10_numeral_335 (by decide) (fun c_335 => ?_) (fun c_335 => ?_)
                  · refine lv_iload_n hx hb dX10_numeral_393 rfl (lv_at hl 3 rfl) ?_
                    refine lv_bipush (v := 95) hx hb dX10_numeral_394 (by decide) ?_
                    refine lv_icmp_ne (tgt := 436) hx hb dX10_numeral_396 (by decide) (fun c_396 => ?_) (fun c_396 => ?_)
                    · refine lv_iload_n hx hb dX10_numeral_436 rfl (lv_at hl 3 rfl) ?_
                      refine lv_bipush (v := 46) hx hb dX10_numeral_437 (by decide) ?_
                      refine lv_icmp_ne (tgt := 483) hx hb dX10_numeral_439 (by decide) (fun c_439 => ?_) (fun c_439 => ?_)
                      · refine lv_iload_n hx hb dX10_numeral_483 rfl (lv_at hl 0 rfl) ?_
                        refine lv_if_eq (tgt := 510) hx hb dX10_numeral_484 (by decide) (fun c_484 => ?_) (fun c_484 => ?_)
                        · exact absurd c_484 c_251
                        · refine lv_aload_n hx hb dX10_numeral_487 rfl (lv_at hl 2 rfl) ?_
                          refine va_get (ci := 9) (v := .int (M.1 21)) hx hb hts iX10 hown hK hP 0 rfl rfl 21 (by decide) (hts _ w_832) (fun _ h9 => h9) rfl dX10_numeral_488 ?_
                          refine lv_bipush (v := 10) hx hb dX10_numeral_491 (by decide) ?_
                          refine lv_icmp_eq (tgt := 510) hx hb dX10_numeral_493 (by decide) (fun c_493 => ?_) (fun c_493 => ?_)
                          · refine lv_iload_n hx hb dX10_numeral_510 rfl (lv_at hl 3 rfl) ?_
                            refine za_ci (wc := []) (wr := zm_ws g h ad M) C hP hD hS [] [0, 1, 2, 3, 4, 5, 6, 7, 8, 9, 10, 11, 12, 13, 14, 15, 16, 17] rfl rfl (by decide) (by decide) (za_runS C hP hD hS [] rfl (by decide) rfl (kX10_letter l g E  x ) w_993 mX10_letter rfl hl.1 rfl (Nat.le_of_ble_eq_true rfl) dX10_numeral_511 ⟨by decide, by decide⟩ ⟨by decide, by decide⟩) (fun r45 _ H locs hr45 hP hD hS => ?_)
                            have hq45 : r38 = r45 := hr38.trans hr45.symm
                            subst hq45
                            have hP : va_P g.1 vwCl (zm_ws g h ad M) H := hP
                            have hD : va_D A (zm_ws g h ad M) := hD
                            refine lv_if_ne (tgt := 525) hx hb dX10_numeral_514 (by decide) (fun c_514 => ?_) (fun c_514 => ?_)
                            · refine lv_aload_n hx hb dX10_numeral_525 rfl (lv_at hl 2 rfl) ?_
                              refine za_cv (wc := zm_ws g h ad M) (wr := []) C hP hD hS [0, 1, 2, 3, 4, 5, 6, 7, 8, 9, 10, 11, 12, 13, 14, 15, 16, 17] [] rfl rfl (by decide) (by decide) (za_runV C hP hD hS [0, 1, 2, 3, 4, 5, 6, 7, 8, 9, 10, 11, 12, 13, 14, 15, 16, 17] rfl (by decide) rfl (kX10_error l g E h ad M  ) w_1010 mX10_error 0 rfl rfl rfl rfl hl.1 rfl (Nat.le_of_ble_eq_true rfl) dX10_numeral_526 ⟨by decide, by decide⟩ ⟨by decide, by decide⟩) (fun M46 H locs hM46 hP hD hS => ?_)
                              have hP : va_P g.1 vwCl (zm_ws g h ad M46) H := hP
                              have hD : va_D A (zm_ws g h ad M46) := hD
                              refine lv_goto (tgt := 584) hx hb dX10_numeral_529 (by decide) ?_
                              subst hM46
                              subst hr38
                              subst hv_22
                              subst hr1
                              exact zm_rv hQ hx hb hr hlocks hK hP hD hS (by simp [zm_numeral, zq_upd, c_29, eq_true c_124, eq_true c_230, eq_true c_234, c_240, c_247, c_251, eq_true c_335, c_396, c_439, c_484, eq_true c_493, c_514]) dX10_numeral_584
                            · exact absurd c_514 c_247
                          · refine lv_aload_n hx hb dX10_numeral_496 rfl (lv_at hl 2 rfl) ?_
                            refine lv_bipush (v := 8) hx hb dX10_numeral_497 (by decide) ?_
                            refine va_put (ci := 9) (fs := zm_fs ad M.1) (v := .int 8) hx hb hts iX10 tyX10 tyX10_ok nmX10 hown hK hP hD hS 0 rfl rfl 21 (by decide) (hts _ w_832) (fun _ h9 => h9) rfl (tyX10_ok 21 (by decide)) rfl rfl (Nat.le_of_ble_eq_true rfl) dX10_numeral_499 (fun H locs hP hD hS => ?_)
                            have hP := zm_pf21 (X := M) hP
                            have hD := zm_df21 (X := M) hD
                            refine lv_aload_n hx hb dX10_numeral_502 rfl (lv_at hl 2 rfl) ?_
                            refine lv_iconst (v := 1) hx hb dX10_numeral_503 (by decide) ?_
                            refine va_put (ci := 9) (fs := zm_fs ad (zm_s M 21 8).1) (v := .int 1) hx hb hts iX10 tyX10 tyX10_ok nmX10 hown hK hP hD hS 0 rfl rfl 26 (by decide) (hts _ w_837) (fun _ h9 => h9) rfl (tyX10_ok 26 (by decide)) rfl rfl (Nat.le_of_ble_eq_true rfl) dX10_numeral_504 (fun H locs hP hD hS => ?_)
                            have hP := zm_pf26 (X := zm_s M 21 8) hP
                            have hD := zm_df26 (X := zm_s M 21 8) hD
                            refine lv_goto (tgt := 584) hx hb dX10_numeral_507 (by decide) ?_
                            subst hr38
                            subst hv_22
                            subst hr1
                            exact zm_rv hQ hx hb hr hlocks hK hP hD hS (by simp [zm_numeral, zq_upd, c_29, eq_true c_124, eq_true c_230, eq_true c_234, c_240, c_247, c_251, eq_true c_335, c_396, c_439, c_484, c_493]) dX10_numeral_584
                      · refine lv_aload_n hx hb dX10_numeral_442 rfl (lv_at hl 2 rfl) ?_
                        refine va_get (ci := 9) (v := .int (M.1 21)) hx hb hts iX10 hown hK hP 0 rfl rfl 21 (by decide) (hts _ w_832) (fun _ h9 => h9) rfl dX10_numeral_443 ?_
                        refine lv_iconst (v := 2) hx hb dX10_numeral_446 (by decide) ?_
                        refine lv_icmp_eq (tgt := 474) hx hb dX10_numeral_447 (by decide) (fun c_447 => ?_) (fun c_447 => ?_)
                        · refine lv_aload_n hx hb dX10_numeral_474 rfl (lv_at hl 2 rfl) ?_
                          refine lv_bipush (v := 6) hx hb dX10_numeral_475 (by decide) ?_
                          refine va_put (ci := 9) (fs := zm_fs ad M.1) (v := .int 6) hx hb hts iX10 tyX10 tyX10_ok nmX10 hown hK hP hD hS 0 rfl rfl 21 (by decide) (hts _ w_832) (fun _ h9 => h9) rfl (tyX10_ok 21 (by decide)) rfl rfl (Nat.le_of_ble_eq_true rfl) dX10_numeral_477 (fun H locs hP hD hS => ?_)
                          have hP := zm_pf21 (X := M) hP
                          have hD := zm_df21 (X := M) hD
                          refine lv_goto (tgt := 584) hx hb dX10_numeral_480 (by decide) ?_
                          subst hr38
                          subst hv_22
                          subst hr1
                          exact zm_rv hQ hx hb hr hlocks hK hP hD hS (by simp [zm_numeral, zq_upd, c_29, eq_true c_124, eq_true c_230, eq_true c_234, c_240, c_247, c_251, eq_true c_335, c_396, eq_true c_439, eq_true c_447]) dX10_numeral_584
                        · exact absurd c_230 c_447
                    · exact absurd c_396 c_240
                  · exact absurd c_234 c_335
                · refine lv_aload_n hx hb dX10_numeral_254 rfl (lv_at hl 2 rfl) ?_
                  have J_306 : ∀ v9 : Int32, v9 = (zr_radix x) → W p l e (za_R 7 0 0) s m args below meth co H locs 0 0 Q (F0 m 306 ls (.int v9 :: [.ref h])) := by
                    intro v_306 hv_306
                    refine va_put (ci := 9) (fs := zm_fs ad M.1) (v := .int v_306) hx hb hts iX10 tyX10 tyX10_ok nmX10 hown hK hP hD hS 0 rfl rfl 22 (by decide) (hts _ w_833) (fun _ h9 => h9) rfl (tyX10_ok 22 (by decide)) rfl rfl (Nat.le_of_ble_eq_true rfl) dX10_numeral_306 (fun H locs hP hD hS => ?_)
                    have hP := zm_pf22 (X := M) hP
                    have hD := zm_df22 (X := M) hD
                    refine lv_aload_n hx hb dX10_numeral_309 rfl (lv_at hl 2 rfl) ?_
                    refine va_get (ci := 9) (v := .int v_306) hx hb hts iX10 hown hK hP 0 rfl rfl 22 (by decide) (hts _ w_833) (fun _ h9 => h9) rfl dX10_numeral_310 ?_
                    refine lv_if_ne (tgt := 320) hx hb dX10_numeral_313 (by decide) (fun c_313 => ?_) (fun c_313 => ?_)
                    · refine lv_aload_n hx hb dX10_numeral_320 rfl (lv_at hl 2 rfl) ?_
                      refine lv_bipush (v := 11) hx hb dX10_numeral_321 (by decide) ?_
                      refine va_put (ci := 9) (fs := zm_fs ad (zm_s M 22 v_306).1) (v := .int 11) hx hb hts iX10 tyX10 tyX10_ok nmX10 hown hK hP hD hS 0 rfl rfl 21 (by decide) (hts _ w_832) (fun _ h9 => h9) rfl (tyX10_ok 21 (by decide)) rfl rfl (Nat.le_of_ble_eq_true rfl) dX10_numeral_323 (fun H locs hP hD hS => ?_)
                      have hP := zm_pf21 (X := zm_s M 22 v_306) hP
                      have hD := zm_df21 (X := zm_s M 22 v_306) hD
                      refine lv_aload_n hx hb dX10_numeral_326 rfl (lv_at hl 2 rfl) ?_
                      refine lv_iconst (v := 1) hx hb dX10_numeral_327 (by decide) ?_
                      refine va_put (ci := 9) (fs := zm_fs ad (zm_s (zm_s M 22 v_306) 21 11).1) (v := .int 1) hx hb hts iX10 tyX10 tyX10_ok nmX10 hown hK hP hD hS 0 rfl rfl 26 (by decide) (hts _ w_837) (fun _ h9 => h9) rfl (tyX10_ok 26 (by decide)) rfl rfl (Nat.le_of_ble_eq_true rfl) dX10_numeral_328 (fun H locs hP hD hS => ?_)
                      have hP := zm_pf26 (X := zm_s (zm_s M 22 v_306) 21 11) hP
                      have hD := zm_df26 (X := zm_s (zm_s M 22 v_306) 21 11) hD
                      refine lv_goto (tgt := 584) hx hb dX10_numeral_331 (by decide) ?_
                      subst hv_306
                      subst hr38
                      subst hv_22
                      subst hr1
                      exact zm_rv hQ hx hb hr hlocks hK hP hD hS (by simp [zm_numeral, zq_upd, c_29, eq_true c_124, eq_true c_230, eq_true c_234, c_240, c_247, eq_true c_251, c_313]) dX10_numeral_584
                    · refine lv_aload_n hx hb dX10_numeral_316 rfl (lv_at hl 2 rfl) ?_
                      refine za_cv (wc := zm_ws g h ad (zm_s M 22 v_306)) (wr := []) C hP hD hS [0, 1, 2, 3, 4, 5, 6, 7, 8, 9, 10, 11, 12, 13, 14, 15, 16, 17] [] rfl rfl (by decide) (by decide) (za_runV C hP hD hS [0, 1, 2, 3, 4, 5, 6, 7, 8, 9, 10, 11, 12, 13, 14, 15, 16, 17] rfl (by decide) rfl (kX10_error l g E h ad (zm_s M 22 v_306)  ) w_1010 mX10_error 0 rfl rfl rfl rfl hl.1 rfl (Nat.le_of_ble_eq_true rfl) dX10_numeral_317 ⟨by decide, by decide⟩ ⟨by decide, by decide⟩) (fun M47 H locs hM47 hP hD hS => ?_)
                      have hP : va_P g.1 vwCl (zm_ws g h ad M47) H := hP
                      have hD : va_D A (zm_ws g h ad M47) := hD
                      refine lv_aload_n hx hb dX10_numeral_320 rfl (lv_at hl 2 rfl) ?_
                      refine lv_bipush (v := 11) hx hb dX10_numeral_321 (by decide) ?_
                      refine va_put (ci := 9) (fs := zm_fs ad M47.1) (v := .int 11) hx hb hts iX10 tyX10 tyX10_ok nmX10 hown hK hP hD hS 0 rfl rfl 21 (by decide) (hts _ w_832) (fun _ h9 => h9) rfl (tyX10_ok 21 (by decide)) rfl rfl (Nat.le_of_ble_eq_true rfl) dX10_numeral_323 (fun H locs hP hD hS => ?_)
                      have hP := zm_pf21 (X := M47) hP
                      have hD := zm_df21 (X := M47) hD
                      refine lv_aload_n hx hb dX10_numeral_326 rfl (lv_at hl 2 rfl) ?_
                      refine lv_iconst (v := 1) hx hb dX10_numeral_327 (by decide) ?_
                      refine va_put (ci := 9) (fs := zm_fs ad (zm_s M47 21 11).1) (v := .int 1) hx hb hts iX10 tyX10 tyX10_ok nmX10 hown hK hP hD hS 0 rfl rfl 26 (by decide) (hts _ w_837) (fun _ h9 => h9) rfl (tyX10_ok 26 (by decide)) rfl rfl (Nat.le_of_ble_eq_true rfl) dX10_numeral_328 (fun H locs hP hD hS => ?_)
                      have hP := zm_pf26 (X := zm_s M47 21 11) hP
                      have hD := zm_df26 (X := zm_s M47 21 11) hD
                      refine lv_goto (tgt := 584) hx hb dX10_numeral_331 (by decide) ?_
                      subst hM47
                      subst hv_306
                      subst hr38
                      subst hv_22
                      subst hr1
                      exact zm_rv hQ hx hb hr hlocks hK hP hD hS (by simp [zm_numeral, zq_upd, c_29, eq_true c_124, eq_true c_230, eq_true c_234, c_240, c_247, eq_true c_251, eq_true c_313]) dX10_numeral_584
                  refine lv_iload_n hx hb dX10_numeral_255 rfl (lv_at hl 3 rfl) ?_
                  refine lv_bipush (v := 98) hx hb dX10_numeral_256 (by decide) ?_
                  refine lv_icmp_eq (tgt := 267) hx hb dX10_numeral_258 (by decide) (fun c_258 => ?_) (fun c_258 => ?_)
                  · refine lv_iconst (v := 2) hx hb dX10_numeral_267 (by decide) ?_
                    refine lv_goto (tgt := 306) hx hb dX10_numeral_268 (by decide) ?_
                    exact J_306 2 (by simp [zr_radix, c_29, eq_true c_124, eq_true c_230, eq_true c_234, c_240, c_247, eq_true c_251, eq_true c_258, hr1, hr38])
                  · refine lv_iload_n hx hb dX10_numeral_261 rfl (lv_at hl 3 rfl) ?_
                    refine lv_bipush (v := 66) hx hb dX10_numeral_262 (by decide) ?_
                    refine lv_icmp_ne (tgt := 271) hx hb dX10_numeral_264 (by decide) (fun c_264 => ?_) (fun c_264 => ?_)
                    · refine lv_iload_n hx hb dX10_numeral_271 rfl (lv_at hl 3 rfl) ?_
                      refine lv_bipush (v := 111) hx hb dX10_numeral_272 (by decide) ?_
                      refine lv_icmp_eq (tgt := 283) hx hb dX10_numeral_274 (by decide) (fun c_274 => ?_) (fun c_274 => ?_)
                      · refine lv_bipush (v := 8) hx hb dX10_numeral_283 (by decide) ?_
                        refine lv_goto (tgt := 306) hx hb dX10_numeral_285 (by decide) ?_
                        exact J_306 8 (by simp [zr_radix, c_29, eq_true c_124, eq_true c_230, eq_true c_234, c_240, c_247, eq_true c_251, c_258, c_264, eq_true c_274, hr1, hr38])
                      · refine lv_iload_n hx hb dX10_numeral_277 rfl (lv_at hl 3 rfl) ?_
                        refine lv_bipush (v := 79) hx hb dX10_numeral_278 (by decide) ?_
                        refine lv_icmp_ne (tgt := 288) hx hb dX10_numeral_280 (by decide) (fun c_280 => ?_) (fun c_280 => ?_)
                        · refine lv_iload_n hx hb dX10_numeral_288 rfl (lv_at hl 3 rfl) ?_
                          refine lv_bipush (v := 120) hx hb dX10_numeral_289 (by decide) ?_
                          refine lv_icmp_eq (tgt := 300) hx hb dX10_numeral_291 (by decide) (fun c_291 => ?_) (fun c_291 => ?_)
                          · refine lv_bipush (v := 16) hx hb dX10_numeral_300 (by decide) ?_
                            refine lv_goto (tgt := 306) hx hb dX10_numeral_302 (by decide) ?_
                            exact J_306 16 (by simp [zr_radix, c_29, eq_true c_124, eq_true c_230, eq_true c_234, c_240, c_247, eq_true c_251, c_258, c_264, c_274, c_280, eq_true c_291, hr1, hr38])
                          · refine lv_iload_n hx hb dX10_numeral_294 rfl (lv_at hl 3 rfl) ?_
                            refine lv_bipush (v := 88) hx hb dX10_numeral_295 (by decide) ?_
                            refine lv_icmp_ne (tgt := 305) hx hb dX10_numeral_297 (by decide) (fun c_297 => ?_) (fun c_297 => ?_)
                            · refine lv_iconst (v := 0) hx hb dX10_numeral_305 (by decide) ?_
                              exact J_306 0 (by simp [zr_radix, c_29, eq_true c_124, eq_true c_230, eq_true c_234, c_240, c_247, eq_true c_251, c_258, c_264, c_274, c_280, c_291, c_297, hr1, hr38])
                            · refine lv_bipush (v := 16) hx hb dX10_numeral_300 (by decide) ?_
                              refine lv_goto (tgt := 306) hx hb dX10_numeral_302 (by decide) ?_
                              exact J_306 16 (by simp [zr_radix, c_29, eq_true c_124, eq_true c_230, eq_true c_234, c_240, c_247, eq_true c_251, c_258, c_264, c_274, c_280, c_291, eq_true c_297, hr1, hr38])
                        · refine lv_bipush (v := 8) hx hb dX10_numeral_283 (by decide) ?_
                          refine lv_goto (tgt := 306) hx hb dX10_numeral_285 (by decide) ?_
                          exact J_306 8 (by simp [zr_radix, c_29, eq_true c_124, eq_true c_230, eq_true c_234, c_240, c_247, eq_true c_251, c_258, c_264, c_274, eq_true c_280, hr1, hr38])
                    · refine lv_iconst (v := 2) hx hb dX10_numeral_267 (by decide) ?_
                      refine lv_goto (tgt := 306) hx hb dX10_numeral_268 (by decide) ?_
                      exact J_306 2 (by simp [zr_radix, c_29, eq_true c_124, eq_true c_230, eq_true c_234, c_240, c_247, eq_true c_251, c_258, eq_true c_264, hr1, hr38])
      · refine lv_iload_n hx hb dX10_numeral_127 rfl (lv_at hl 1 rfl) ?_
        refine lv_if_eq (tgt := 188) hx hb dX10_numeral_128 (by decide) (fun c_128 => ?_) (fun c_128 => ?_)
        · refine lv_aload_n hx hb dX10_numeral_188 rfl (lv_at hl 2 rfl) ?_
          refine va_get (ci := 9) (v := .int (M.1 21)) hx hb hts iX10 hown hK hP 0 rfl rfl 21 (by decide) (hts _ w_832) (fun _ h9 => h9) rfl dX10_numeral_189 ?_
          refine lv_bipush (v := 8) hx hb dX10_numeral_192 (by decide) ?_
          refine lv_icmp_ne (tgt := 218) hx hb dX10_numeral_194 (by decide) (fun c_194 => ?_) (fun c_194 => ?_)
          · refine lv_aload_n hx hb dX10_numeral_218 rfl (lv_at hl 2 rfl) ?_
            refine za_cv (wc := zm_ws g h ad M) (wr := []) C hP hD hS [0, 1, 2, 3, 4, 5, 6, 7, 8, 9, 10, 11, 12, 13, 14, 15, 16, 17] [] rfl rfl (by decide) (by decide) (za_runV C hP hD hS [0, 1, 2, 3, 4, 5, 6, 7, 8, 9, 10, 11, 12, 13, 14, 15, 16, 17] rfl (by decide) rfl (kX10_error l g E h ad M  ) w_1010 mX10_error 0 rfl rfl rfl rfl hl.1 rfl (Nat.le_of_ble_eq_true rfl) dX10_numeral_219 ⟨by decide, by decide⟩ ⟨by decide, by decide⟩) (fun M48 H locs hM48 hP hD hS => ?_)
            have hP : va_P g.1 vwCl (zm_ws g h ad M48) H := hP
            have hD : va_D A (zm_ws g h ad M48) := hD
            refine lv_goto (tgt := 584) hx hb dX10_numeral_222 (by decide) ?_
            subst hM48
            subst hv_22
            subst hr1
            exact zm_rv hQ hx hb hr hlocks hK hP hD hS (by simp [zm_numeral, zq_upd, c_29, c_124, eq_true c_128, c_194]) dX10_numeral_584
          · refine lv_iload_n hx hb dX10_numeral_197 rfl (lv_at hl 3 rfl) ?_
            refine lv_bipush (v := 43) hx hb dX10_numeral_198 (by decide) ?_
            refine lv_icmp_eq (tgt := 209) hx hb dX10_numeral_200 (by decide) (fun c_200 => ?_) (fun c_200 => ?_)
            · refine lv_aload_n hx hb dX10_numeral_209 rfl (lv_at hl 2 rfl) ?_
              refine lv_bipush (v := 9) hx hb dX10_numeral_210 (by decide) ?_
              refine va_put (ci := 9) (fs := zm_fs ad M.1) (v := .int 9) hx hb hts iX10 tyX10 tyX10_ok nmX10 hown hK hP hD hS 0 rfl rfl 21 (by decide) (hts _ w_832) (fun _ h9 => h9) rfl (tyX10_ok 21 (by decide)) rfl rfl (Nat.le_of_ble_eq_true rfl) dX10_numeral_212 (fun H locs hP hD hS => ?_)
              have hP := zm_pf21 (X := M) hP
              have hD := zm_df21 (X := M) hD
              refine lv_goto (tgt := 584) hx hb dX10_numeral_215 (by decide) ?_
              subst hv_22
              subst hr1
              exact zm_rv hQ hx hb hr hlocks hK hP hD hS (by simp [zm_numeral, zq_upd, c_29, c_124, eq_true c_128, eq_true c_194, eq_true c_200]) dX10_numeral_584
            · refine lv_iload_n hx hb dX10_numeral_203 rfl (lv_at hl 3 rfl) ?_
              refine lv_bipush (v := 45) hx hb dX10_numeral_204 (by decide) ?_
              refine lv_icmp_ne (tgt := 218) hx hb dX10_numeral_206 (by decide) (fun c_206 => ?_) (fun c_206 => ?_)
              · refine lv_aload_n hx hb dX10_numeral_218 rfl (lv_at hl 2 rfl) ?_
                refine za_cv (wc := zm_ws g h ad M) (wr := []) C hP hD hS [0, 1, 2, 3, 4, 5, 6, 7, 8, 9, 10, 11, 12, 13, 14, 15, 16, 17] [] rfl rfl (by decide) (by decide) (za_runV C hP hD hS [0, 1, 2, 3, 4, 5, 6, 7, 8, 9, 10, 11, 12, 13, 14, 15, 16, 17] rfl (by decide) rfl (kX10_error l g E h ad M  ) w_1010 mX10_error 0 rfl rfl rfl rfl hl.1 rfl (Nat.le_of_ble_eq_true rfl) dX10_numeral_219 ⟨by decide, by decide⟩ ⟨by decide, by decide⟩) (fun M49 H locs hM49 hP hD hS => ?_)
                have hP : va_P g.1 vwCl (zm_ws g h ad M49) H := hP
                have hD : va_D A (zm_ws g h ad M49) := hD
                refine lv_goto (tgt := 584) hx hb dX10_numeral_222 (by decide) ?_
                subst hM49
                subst hv_22
                subst hr1
                exact zm_rv hQ hx hb hr hlocks hK hP hD hS (by simp [zm_numeral, zq_upd, c_29, c_124, eq_true c_128, eq_true c_194, c_200, c_206]) dX10_numeral_584
              · refine lv_aload_n hx hb dX10_numeral_209 rfl (lv_at hl 2 rfl) ?_
                refine lv_bipush (v := 9) hx hb dX10_numeral_210 (by decide) ?_
                refine va_put (ci := 9) (fs := zm_fs ad M.1) (v := .int 9) hx hb hts iX10 tyX10 tyX10_ok nmX10 hown hK hP hD hS 0 rfl rfl 21 (by decide) (hts _ w_832) (fun _ h9 => h9) rfl (tyX10_ok 21 (by decide)) rfl rfl (Nat.le_of_ble_eq_true rfl) dX10_numeral_212 (fun H locs hP hD hS => ?_)
                have hP := zm_pf21 (X := M) hP
                have hD := zm_df21 (X := M) hD
                refine lv_goto (tgt := 584) hx hb dX10_numeral_215 (by decide) ?_
                subst hv_22
                subst hr1
                exact zm_rv hQ hx hb hr hlocks hK hP hD hS (by simp [zm_numeral, zq_upd, c_29, c_124, eq_true c_128, eq_true c_194, c_200, eq_true c_206]) dX10_numeral_584
        · refine lv_aload_n hx hb dX10_numeral_131 rfl (lv_at hl 2 rfl) ?_
          refine lv_iconst (v := 0) hx hb dX10_numeral_132 (by decide) ?_
          refine va_put (ci := 9) (fs := zm_fs ad M.1) (v := .int 0) hx hb hts iX10 tyX10 tyX10_ok nmX10 hown hK hP hD hS 0 rfl rfl 26 (by decide) (hts _ w_837) (fun _ h9 => h9) rfl (tyX10_ok 26 (by decide)) rfl rfl (Nat.le_of_ble_eq_true rfl) dX10_numeral_133 (fun H locs hP hD hS => ?_)
          have hP := zm_pf26 (X := M) hP
          have hD := zm_df26 (X := M) hD
          refine lv_aload_n hx hb dX10_numeral_136 rfl (lv_at hl 2 rfl) ?_
          have J_182 : ∀ v9 : Int32, v9 = (zr_st1 (M.1 21) x) → W p l e (za_R 7 0 0) s m args below meth co H locs 0 0 Q (F0 m 182 ls (.int v9 :: [.ref h])) := by
            intro v_182 hv_182
            refine va_put (ci := 9) (fs := zm_fs ad (zm_s M 26 0).1) (v := .int v_182) hx hb hts iX10 tyX10 tyX10_ok nmX10 hown hK hP hD hS 0 rfl rfl 21 (by decide) (hts _ w_832) (fun _ h9 => h9) rfl (tyX10_ok 21 (by decide)) rfl rfl (Nat.le_of_ble_eq_true rfl) dX10_numeral_182 (fun H locs hP hD hS => ?_)
            have hP := zm_pf21 (X := zm_s M 26 0) hP
            have hD := zm_df21 (X := zm_s M 26 0) hD
            refine lv_goto (tgt := 584) hx hb dX10_numeral_185 (by decide) ?_
            subst hv_182
            subst hv_22
            subst hr1
            exact zm_rv hQ hx hb hr hlocks hK hP hD hS (by simp [zm_numeral, zq_upd, c_29, c_124, c_128]) dX10_numeral_584
          refine lv_aload_n hx hb dX10_numeral_137 rfl (lv_at hl 2 rfl) ?_
          refine va_get (ci := 9) (v := .int (M.1 21)) hx hb hts iX10 hown hK hP 0 rfl rfl 21 (by decide) (hts _ w_832) (fun _ h9 => h9) rfl dX10_numeral_138 ?_
          refine lv_iconst (v := 3) hx hb dX10_numeral_141 (by decide) ?_
          refine lv_icmp_ne (tgt := 155) hx hb dX10_numeral_142 (by decide) (fun c_142 => ?_) (fun c_142 => ?_)
          · refine lv_aload_n hx hb dX10_numeral_155 rfl (lv_at hl 2 rfl) ?_
            refine va_get (ci := 9) (v := .int (M.1 21)) hx hb hts iX10 hown hK hP 0 rfl rfl 21 (by decide) (hts _ w_832) (fun _ h9 => h9) rfl dX10_numeral_156 ?_
            refine lv_bipush (v := 8) hx hb dX10_numeral_159 (by decide) ?_
            refine lv_icmp_eq (tgt := 173) hx hb dX10_numeral_161 (by decide) (fun c_161 => ?_) (fun c_161 => ?_)
            · refine lv_bipush (v := 10) hx hb dX10_numeral_173 (by decide) ?_
              refine lv_goto (tgt := 182) hx hb dX10_numeral_175 (by decide) ?_
              exact J_182 10 (by simp [zr_st1, c_29, c_124, c_128, c_142, eq_true c_161, hr1])
            · refine lv_aload_n hx hb dX10_numeral_164 rfl (lv_at hl 2 rfl) ?_
              refine va_get (ci := 9) (v := .int (M.1 21)) hx hb hts iX10 hown hK hP 0 rfl rfl 21 (by decide) (hts _ w_832) (fun _ h9 => h9) rfl dX10_numeral_165 ?_
              refine lv_bipush (v := 9) hx hb dX10_numeral_168 (by decide) ?_
              refine lv_icmp_ne (tgt := 178) hx hb dX10_numeral_170 (by decide) (fun c_170 => ?_) (fun c_170 => ?_)
              · refine lv_aload_n hx hb dX10_numeral_178 rfl (lv_at hl 2 rfl) ?_
                refine va_get (ci := 9) (v := .int (M.1 21)) hx hb hts iX10 hown hK hP 0 rfl rfl 21 (by decide) (hts _ w_832) (fun _ h9 => h9) rfl dX10_numeral_179 ?_
                exact J_182 (M.1 21) (by simp [zr_st1, c_29, c_124, c_128, c_142, c_161, c_170, hr1])
              · refine lv_bipush (v := 10) hx hb dX10_numeral_173 (by decide) ?_
                refine lv_goto (tgt := 182) hx hb dX10_numeral_175 (by decide) ?_
                exact J_182 10 (by simp [zr_st1, c_29, c_124, c_128, c_142, c_161, eq_true c_170, hr1])
          · refine lv_iload_n hx hb dX10_numeral_145 rfl (lv_at hl 3 rfl) ?_
            refine lv_bipush (v := 55) hx hb dX10_numeral_146 (by decide) ?_
            refine za_icmp_le (tgt := 155) hx hb dX10_numeral_148 (by decide) (fun c_148 => ?_) (fun c_148 => ?_)
            · refine lv_aload_n hx hb dX10_numeral_155 rfl (lv_at hl 2 rfl) ?_
              refine va_get (ci := 9) (v := .int (M.1 21)) hx hb hts iX10 hown hK hP 0 rfl rfl 21 (by decide) (hts _ w_832) (fun _ h9 => h9) rfl dX10_numeral_156 ?_
              refine lv_bipush (v := 8) hx hb dX10_numeral_159 (by decide) ?_
              refine lv_icmp_eq (tgt := 173) hx hb dX10_numeral_161 (by decide) (fun c_161 => ?_) (fun c_161 => ?_)
              · refine lv_bipush (v := 10) hx hb dX10_numeral_173 (by decide) ?_
                refine lv_goto (tgt := 182) hx hb dX10_numeral_175 (by decide) ?_
                exact J_182 10 (by simp [zr_st1, c_29, c_124, c_128, eq_true c_142, c_148, eq_true c_161, hr1])
              · refine lv_aload_n hx hb dX10_numeral_164 rfl (lv_at hl 2 rfl) ?_
                refine va_get (ci := 9) (v := .int (M.1 21)) hx hb hts iX10 hown hK hP 0 rfl rfl 21 (by decide) (hts _ w_832) (fun _ h9 => h9) rfl dX10_numeral_165 ?_
                refine lv_bipush (v := 9) hx hb dX10_numeral_168 (by decide) ?_
                refine lv_icmp_ne (tgt := 178) hx hb dX10_numeral_170 (by decide) (fun c_170 => ?_) (fun c_170 => ?_)
                · refine lv_aload_n hx hb dX10_numeral_178 rfl (lv_at hl 2 rfl) ?_
                  refine va_get (ci := 9) (v := .int (M.1 21)) hx hb hts iX10 hown hK hP 0 rfl rfl 21 (by decide) (hts _ w_832) (fun _ h9 => h9) rfl dX10_numeral_179 ?_
                  exact J_182 (M.1 21) (by simp [zr_st1, c_29, c_124, c_128, eq_true c_142, c_148, c_161, c_170, hr1])
                · refine lv_bipush (v := 10) hx hb dX10_numeral_173 (by decide) ?_
                  refine lv_goto (tgt := 182) hx hb dX10_numeral_175 (by decide) ?_
                  exact J_182 10 (by simp [zr_st1, c_29, c_124, c_128, eq_true c_142, c_148, c_161, eq_true c_170, hr1])
            · refine lv_iconst (v := 4) hx hb dX10_numeral_151 (by decide) ?_
              refine lv_goto (tgt := 182) hx hb dX10_numeral_152 (by decide) ?_
              exact J_182 4 (by simp [zr_st1, c_29, c_124, c_128, eq_true c_142, c_148, hr1])
    · refine lv_iload_n hx hb dX10_numeral_32 rfl (lv_at hl 3 rfl) ?_
      refine za_ci (wc := []) (wr := zm_ws g h ad M) C hP hD hS [] [0, 1, 2, 3, 4, 5, 6, 7, 8, 9, 10, 11, 12, 13, 14, 15, 16, 17] rfl rfl (by decide) (by decide) (za_runS C hP hD hS [] rfl (by decide) rfl (kX10_worth l g E  x ) w_1039 mX10_worth rfl hl.1 rfl (Nat.le_of_ble_eq_true rfl) dX10_numeral_33 ⟨by decide, by decide⟩ ⟨by decide, by decide⟩) (fun r50 _ H locs hr50 hP hD hS => ?_)
      have hP : va_P g.1 vwCl (zm_ws g h ad M) H := hP
      have hD : va_D A (zm_ws g h ad M) := hD
      refine lv_aload_n hx hb dX10_numeral_36 rfl (lv_at hl 2 rfl) ?_
      refine va_get (ci := 9) (v := .int (M.1 22)) hx hb hts iX10 hown hK hP 0 rfl rfl 22 (by decide) (hts _ w_833) (fun _ h9 => h9) rfl dX10_numeral_37 ?_
      refine za_icmp_ge (tgt := 51) hx hb dX10_numeral_40 (by decide) (fun c_40 => ?_) (fun c_40 => ?_)
      · refine lv_iload_n hx hb dX10_numeral_51 rfl (lv_at hl 3 rfl) ?_
        refine lv_bipush (v := 95) hx hb dX10_numeral_52 (by decide) ?_
        refine lv_icmp_ne (tgt := 87) hx hb dX10_numeral_54 (by decide) (fun c_54 => ?_) (fun c_54 => ?_)
        · refine lv_aload_n hx hb dX10_numeral_87 rfl (lv_at hl 2 rfl) ?_
          refine va_get (ci := 9) (v := .int (M.1 26)) hx hb hts iX10 hown hK hP 0 rfl rfl 26 (by decide) (hts _ w_837) (fun _ h9 => h9) rfl dX10_numeral_88 ?_
          refine lv_if_ne (tgt := 105) hx hb dX10_numeral_91 (by decide) (fun c_91 => ?_) (fun c_91 => ?_)
          · refine lv_aload_n hx hb dX10_numeral_105 rfl (lv_at hl 2 rfl) ?_
            refine za_cv (wc := zm_ws g h ad M) (wr := []) C hP hD hS [0, 1, 2, 3, 4, 5, 6, 7, 8, 9, 10, 11, 12, 13, 14, 15, 16, 17] [] rfl rfl (by decide) (by decide) (za_runV C hP hD hS [0, 1, 2, 3, 4, 5, 6, 7, 8, 9, 10, 11, 12, 13, 14, 15, 16, 17] rfl (by decide) rfl (kX10_error l g E h ad M  ) w_1010 mX10_error 0 rfl rfl rfl rfl hl.1 rfl (Nat.le_of_ble_eq_true rfl) dX10_numeral_106 ⟨by decide, by decide⟩ ⟨by decide, by decide⟩) (fun M51 H locs hM51 hP hD hS => ?_)
            have hP : va_P g.1 vwCl (zm_ws g h ad M51) H := hP
            have hD : va_D A (zm_ws g h ad M51) := hD
            refine lv_goto (tgt := 584) hx hb dX10_numeral_109 (by decide) ?_
            subst hM51
            subst hr50
            subst hv_22
            subst hr1
            exact zm_rv hQ hx hb hr hlocks hK hP hD hS (by simp [zm_numeral, zq_upd, eq_true c_29, c_40, c_54, c_91]) dX10_numeral_584
          · refine lv_iload_n hx hb dX10_numeral_94 rfl (lv_at hl 3 rfl) ?_
            refine za_ci (wc := []) (wr := zm_ws g h ad M) C hP hD hS [] [0, 1, 2, 3, 4, 5, 6, 7, 8, 9, 10, 11, 12, 13, 14, 15, 16, 17] rfl rfl (by decide) (by decide) (za_runS C hP hD hS [] rfl (by decide) rfl (kX10_letter l g E  x ) w_993 mX10_letter rfl hl.1 rfl (Nat.le_of_ble_eq_true rfl) dX10_numeral_95 ⟨by decide, by decide⟩ ⟨by decide, by decide⟩) (fun r52 _ H locs hr52 hP hD hS => ?_)
            have hP : va_P g.1 vwCl (zm_ws g h ad M) H := hP
            have hD : va_D A (zm_ws g h ad M) := hD
            refine lv_if_ne (tgt := 105) hx hb dX10_numeral_98 (by decide) (fun c_98 => ?_) (fun c_98 => ?_)
            · refine lv_aload_n hx hb dX10_numeral_105 rfl (lv_at hl 2 rfl) ?_
              refine za_cv (wc := zm_ws g h ad M) (wr := []) C hP hD hS [0, 1, 2, 3, 4, 5, 6, 7, 8, 9, 10, 11, 12, 13, 14, 15, 16, 17] [] rfl rfl (by decide) (by decide) (za_runV C hP hD hS [0, 1, 2, 3, 4, 5, 6, 7, 8, 9, 10, 11, 12, 13, 14, 15, 16, 17] rfl (by decide) rfl (kX10_error l g E h ad M  ) w_1010 mX10_error 0 rfl rfl rfl rfl hl.1 rfl (Nat.le_of_ble_eq_true rfl) dX10_numeral_106 ⟨by decide, by decide⟩ ⟨by decide, by decide⟩) (fun M53 H locs hM53 hP hD hS => ?_)
              have hP : va_P g.1 vwCl (zm_ws g h ad M53) H := hP
              have hD : va_D A (zm_ws g h ad M53) := hD
              refine lv_goto (tgt := 584) hx hb dX10_numeral_109 (by decide) ?_
              subst hM53
              subst hr52
              subst hr50
              subst hv_22
              subst hr1
              exact zm_rv hQ hx hb hr hlocks hK hP hD hS (by simp [zm_numeral, zq_upd, eq_true c_29, c_40, c_54, eq_true c_91, c_98]) dX10_numeral_584
            · refine lv_iload_n hx hb dX10_numeral_101 rfl (lv_at hl 1 rfl) ?_
              refine lv_if_eq (tgt := 112) hx hb dX10_numeral_102 (by decide) (fun c_102 => ?_) (fun c_102 => ?_)
              · refine lv_aload_n hx hb dX10_numeral_112 rfl (lv_at hl 2 rfl) ?_
                refine lv_iconst (v := 1) hx hb dX10_numeral_113 (by decide) ?_
                refine za_cv (wc := zm_ws g h ad M) (wr := []) C hP hD hS [0, 1, 2, 3, 4, 5, 6, 7, 8, 9, 10, 11, 12, 13, 14, 15, 16, 17] [] rfl rfl (by decide) (by decide) (za_runV C hP hD hS [0, 1, 2, 3, 4, 5, 6, 7, 8, 9, 10, 11, 12, 13, 14, 15, 16, 17] rfl (by decide) rfl (kX10_ends l g E h ad M 1 hT hB) w_1042 mX10_ends 0 rfl rfl rfl rfl hl.1 rfl (Nat.le_of_ble_eq_true rfl) dX10_numeral_114 ⟨by decide, by decide⟩ ⟨by decide, by decide⟩) (fun M54 H locs hM54 hP hD hS => ?_)
                have hP : va_P g.1 vwCl (zm_ws g h ad M54) H := hP
                have hD : va_D A (zm_ws g h ad M54) := hD
                refine lv_goto (tgt := 584) hx hb dX10_numeral_117 (by decide) ?_
                subst hM54
                subst hr52
                subst hr50
                subst hv_22
                subst hr1
                exact zm_rv hQ hx hb hr hlocks hK hP hD hS (by simp [zm_numeral, zq_upd, eq_true c_29, c_40, c_54, eq_true c_91, eq_true c_98, eq_true c_102]) dX10_numeral_584
              · refine lv_aload_n hx hb dX10_numeral_105 rfl (lv_at hl 2 rfl) ?_
                refine za_cv (wc := zm_ws g h ad M) (wr := []) C hP hD hS [0, 1, 2, 3, 4, 5, 6, 7, 8, 9, 10, 11, 12, 13, 14, 15, 16, 17] [] rfl rfl (by decide) (by decide) (za_runV C hP hD hS [0, 1, 2, 3, 4, 5, 6, 7, 8, 9, 10, 11, 12, 13, 14, 15, 16, 17] rfl (by decide) rfl (kX10_error l g E h ad M  ) w_1010 mX10_error 0 rfl rfl rfl rfl hl.1 rfl (Nat.le_of_ble_eq_true rfl) dX10_numeral_106 ⟨by decide, by decide⟩ ⟨by decide, by decide⟩) (fun M55 H locs hM55 hP hD hS => ?_)
                have hP : va_P g.1 vwCl (zm_ws g h ad M55) H := hP
                have hD : va_D A (zm_ws g h ad M55) := hD
                refine lv_goto (tgt := 584) hx hb dX10_numeral_109 (by decide) ?_
                subst hM55
                subst hr52
                subst hr50
                subst hv_22
                subst hr1
                exact zm_rv hQ hx hb hr hlocks hK hP hD hS (by simp [zm_numeral, zq_upd, eq_true c_29, c_40, c_54, eq_true c_91, eq_true c_98, c_102]) dX10_numeral_584
        · refine lv_aload_n hx hb dX10_numeral_57 rfl (lv_at hl 2 rfl) ?_
          refine va_get (ci := 9) (v := .int (M.1 26)) hx hb hts iX10 hown hK hP 0 rfl rfl 26 (by decide) (hts _ w_837) (fun _ h9 => h9) rfl dX10_numeral_58 ?_
          refine lv_if_eq (tgt := 79) hx hb dX10_numeral_61 (by decide) (fun c_61 => ?_) (fun c_61 => ?_)
          · refine lv_aload_n hx hb dX10_numeral_79 rfl (lv_at hl 2 rfl) ?_
            refine lv_iconst (v := 1) hx hb dX10_numeral_80 (by decide) ?_
            refine va_put (ci := 9) (fs := zm_fs ad M.1) (v := .int 1) hx hb hts iX10 tyX10 tyX10_ok nmX10 hown hK hP hD hS 0 rfl rfl 26 (by decide) (hts _ w_837) (fun _ h9 => h9) rfl (tyX10_ok 26 (by decide)) rfl rfl (Nat.le_of_ble_eq_true rfl) dX10_numeral_81 (fun H locs hP hD hS => ?_)
            have hP := zm_pf26 (X := M) hP
            have hD := zm_df26 (X := M) hD
            refine lv_goto (tgt := 584) hx hb dX10_numeral_84 (by decide) ?_
            subst hr50
            subst hv_22
            subst hr1
            exact zm_rv hQ hx hb hr hlocks hK hP hD hS (by simp [zm_numeral, zq_upd, eq_true c_29, c_40, eq_true c_54, eq_true c_61]) dX10_numeral_584
          · refine lv_aload_n hx hb dX10_numeral_64 rfl (lv_at hl 2 rfl) ?_
            refine lv_aload_n hx hb dX10_numeral_65 rfl (lv_at hl 2 rfl) ?_
            refine va_get (ci := 9) (v := .int (M.1 27)) hx hb hts iX10 hown hK hP 0 rfl rfl 27 (by decide) (hts _ w_838) (fun _ h9 => h9) rfl dX10_numeral_66 ?_
            refine lv_iconst (v := 1) hx hb dX10_numeral_69 (by decide) ?_
            refine lv_isub hx hb dX10_numeral_70 ?_
            refine za_ci (wc := zm_ws g h ad M) (wr := []) C hP hD hS [0, 1, 2, 3, 4, 5, 6, 7, 8, 9, 10, 11, 12, 13, 14, 15, 16, 17] [] rfl rfl (by decide) (by decide) (za_runV C hP hD hS [0, 1, 2, 3, 4, 5, 6, 7, 8, 9, 10, 11, 12, 13, 14, 15, 16, 17] rfl (by decide) rfl (kX10_byteAt l g E h ad M ((M.1 27) - 1) (h1 c_29)) w_965 mX10_byteAt 0 rfl rfl rfl rfl hl.1 rfl (Nat.le_of_ble_eq_true rfl) dX10_numeral_71 ⟨by decide, by decide⟩ ⟨by decide, by decide⟩) (fun r56 _ H locs hr56 hP hD hS => ?_)
            have hP : va_P g.1 vwCl (zm_ws g h ad M) H := hP
            have hD : va_D A (zm_ws g h ad M) := hD
            refine lv_bipush (v := 95) hx hb dX10_numeral_74 (by decide) ?_
            refine lv_icmp_eq (tgt := 87) hx hb dX10_numeral_76 (by decide) (fun c_76 => ?_) (fun c_76 => ?_)
            · refine lv_aload_n hx hb dX10_numeral_87 rfl (lv_at hl 2 rfl) ?_
              refine va_get (ci := 9) (v := .int (M.1 26)) hx hb hts iX10 hown hK hP 0 rfl rfl 26 (by decide) (hts _ w_837) (fun _ h9 => h9) rfl dX10_numeral_88 ?_
              refine lv_if_ne (tgt := 105) hx hb dX10_numeral_91 (by decide) (fun c_91 => ?_) (fun c_91 => ?_)
              · refine lv_aload_n hx hb dX10_numeral_105 rfl (lv_at hl 2 rfl) ?_
                refine za_cv (wc := zm_ws g h ad M) (wr := []) C hP hD hS [0, 1, 2, 3, 4, 5, 6, 7, 8, 9, 10, 11, 12, 13, 14, 15, 16, 17] [] rfl rfl (by decide) (by decide) (za_runV C hP hD hS [0, 1, 2, 3, 4, 5, 6, 7, 8, 9, 10, 11, 12, 13, 14, 15, 16, 17] rfl (by decide) rfl (kX10_error l g E h ad M  ) w_1010 mX10_error 0 rfl rfl rfl rfl hl.1 rfl (Nat.le_of_ble_eq_true rfl) dX10_numeral_106 ⟨by decide, by decide⟩ ⟨by decide, by decide⟩) (fun M57 H locs hM57 hP hD hS => ?_)
                have hP : va_P g.1 vwCl (zm_ws g h ad M57) H := hP
                have hD : va_D A (zm_ws g h ad M57) := hD
                refine lv_goto (tgt := 584) hx hb dX10_numeral_109 (by decide) ?_
                subst hM57
                subst hr56
                subst hr50
                subst hv_22
                subst hr1
                exact zm_rv hQ hx hb hr hlocks hK hP hD hS (by simp [zm_numeral, zq_upd, eq_true c_29, c_40, eq_true c_54, c_61, eq_true c_76, c_91]) dX10_numeral_584
              · exact absurd c_91 c_61
            · refine lv_aload_n hx hb dX10_numeral_79 rfl (lv_at hl 2 rfl) ?_
              refine lv_iconst (v := 1) hx hb dX10_numeral_80 (by decide) ?_
              refine va_put (ci := 9) (fs := zm_fs ad M.1) (v := .int 1) hx hb hts iX10 tyX10 tyX10_ok nmX10 hown hK hP hD hS 0 rfl rfl 26 (by decide) (hts _ w_837) (fun _ h9 => h9) rfl (tyX10_ok 26 (by decide)) rfl rfl (Nat.le_of_ble_eq_true rfl) dX10_numeral_81 (fun H locs hP hD hS => ?_)
              have hP := zm_pf26 (X := M) hP
              have hD := zm_df26 (X := M) hD
              refine lv_goto (tgt := 584) hx hb dX10_numeral_84 (by decide) ?_
              subst hr56
              subst hr50
              subst hv_22
              subst hr1
              exact zm_rv hQ hx hb hr hlocks hK hP hD hS (by simp [zm_numeral, zq_upd, eq_true c_29, c_40, eq_true c_54, c_61, c_76]) dX10_numeral_584
      · refine lv_aload_n hx hb dX10_numeral_43 rfl (lv_at hl 2 rfl) ?_
        refine lv_iconst (v := 0) hx hb dX10_numeral_44 (by decide) ?_
        refine va_put (ci := 9) (fs := zm_fs ad M.1) (v := .int 0) hx hb hts iX10 tyX10 tyX10_ok nmX10 hown hK hP hD hS 0 rfl rfl 26 (by decide) (hts _ w_837) (fun _ h9 => h9) rfl (tyX10_ok 26 (by decide)) rfl rfl (Nat.le_of_ble_eq_true rfl) dX10_numeral_45 (fun H locs hP hD hS => ?_)
        have hP := zm_pf26 (X := M) hP
        have hD := zm_df26 (X := M) hD
        refine lv_goto (tgt := 584) hx hb dX10_numeral_48 (by decide) ?_
        subst hr50
        subst hv_22
        subst hr1
        exact zm_rv hQ hx hb hr hlocks hK hP hD hS (by simp [zm_numeral, zq_upd, eq_true c_29, c_40]) dX10_numeral_584
  refine lv_iload_n hx hb dX10_numeral_5 rfl (lv_at hl 2 rfl) ?_
  refine lv_bipush (v := 101) hx hb dX10_numeral_6 (by decide) ?_
  refine lv_icmp_eq (tgt := 17) hx hb dX10_numeral_8 (by decide) (fun c_8 => ?_) (fun c_8 => ?_)
  · refine lv_iconst (v := 1) hx hb dX10_numeral_17 (by decide) ?_
    refine lv_goto (tgt := 22) hx hb dX10_numeral_18 (by decide) ?_
    exact J_22 1 (by simp [zr_e, eq_true c_8, hr1])
  · refine lv_iload_n hx hb dX10_numeral_11 rfl (lv_at hl 2 rfl) ?_
    refine lv_bipush (v := 69) hx hb dX10_numeral_12 (by decide) ?_
    refine lv_icmp_ne (tgt := 21) hx hb dX10_numeral_14 (by decide) (fun c_14 => ?_) (fun c_14 => ?_)
    · refine lv_iconst (v := 0) hx hb dX10_numeral_21 (by decide) ?_
      exact J_22 0 (by simp [zr_e, c_8, c_14, hr1])
    · refine lv_iconst (v := 1) hx hb dX10_numeral_17 (by decide) ?_
      refine lv_goto (tgt := 22) hx hb dX10_numeral_18 (by decide) ?_
      exact J_22 1 (by simp [zr_e, c_8, eq_true c_14, hr1])
