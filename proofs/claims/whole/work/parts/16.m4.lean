set_option maxHeartbeats 4000000 in
set_option maxRecDepth 100000 in
theorem kX10_step (l : Launch) (g : za_G) (E : za_E) (h : Nat) (ad : Nat → Nat) (M : zm_M) (x : Int32) (k D : Nat) (hT : zm_T M) (h1 : M.1 21 = 1 → zm_B M ∧ M.1 23 < M.1 27 ∧ zm_N M) (h2 : ¬ M.1 21 < 2 → ¬ 11 < M.1 21 → zm_B M ∧ (M.1 21 = 11 → vp_in (M.1 27 - 1) 65536)) (h3 : M.1 21 = 14 ∨ M.1 21 = 17 → M.1 27 - M.1 23 = nI k ∧ k < 65536 ∧ ∀ j : Nat, j < k → vp_in (M.1 23 + nI j) 65536) (h4 : (M.1 21 = 15 ∨ M.1 21 = 16 ∨ (¬ M.1 21 = 0 ∧ ¬ M.1 21 = 1 ∧ (M.1 21 < 2 ∨ 11 < M.1 21) ∧ ¬ M.1 21 = 12 ∧ ¬ M.1 21 = 13 ∧ ¬ M.1 21 = 14 ∧ ¬ M.1 21 = 17)) → ¬ M.1 23 < 0 ∧ zm_K M 4 ∧ (0 < M.1 36 → M.1 36 - 1 = nI D) ∧ D < 100) : za_Cv l g E yX10_step cX10_step 2 8 0 0 [.ref h, .int x] (zm_ws g h ad M) (fun u : zm_M => u = zm_step M x) (fun u => zm_ws g h ad u) := by
  refine za_begin (by decide) (Nat.le_of_ble_eq_true rfl) RX10 rfl ?_
  intro p e s m args below meth co A ls Q H locs C hQ hr hlocks hnm hS hP hD hl
  obtain ⟨hx, hb, hml, hown, hts, hK, hA, hE⟩ := id C
  have hl : lv_has ls 2 [(0, .ref h), (1, .int x)] := hl
  refine lv_aload_n hx hb dX10_step_0 rfl (lv_at hl 0 rfl) ?_
  refine va_get (ci := 9) (v := .int (M.1 21)) hx hb hts iX10 hown hK hP 0 rfl rfl 21 (by decide) (hts _ w_832) (fun _ h9 => h9) rfl dX10_step_1 ?_
  refine lv_if_ne (tgt := 15) hx hb dX10_step_4 (by decide) (fun c_4 => ?_) (fun c_4 => ?_)
  · refine lv_aload_n hx hb dX10_step_15 rfl (lv_at hl 0 rfl) ?_
    refine va_get (ci := 9) (v := .int (M.1 21)) hx hb hts iX10 hown hK hP 0 rfl rfl 21 (by decide) (hts _ w_832) (fun _ h9 => h9) rfl dX10_step_16 ?_
    refine lv_iconst (v := 1) hx hb dX10_step_19 (by decide) ?_
    refine lv_icmp_ne (tgt := 38) hx hb dX10_step_20 (by decide) (fun c_20 => ?_) (fun c_20 => ?_)
    · refine lv_aload_n hx hb dX10_step_38 rfl (lv_at hl 0 rfl) ?_
      refine va_get (ci := 9) (v := .int (M.1 21)) hx hb hts iX10 hown hK hP 0 rfl rfl 21 (by decide) (hts _ w_832) (fun _ h9 => h9) rfl dX10_step_39 ?_
      refine lv_iconst (v := 1) hx hb dX10_step_42 (by decide) ?_
      refine lv_icmp_ne (tgt := 54) hx hb dX10_step_43 (by decide) (fun c_43 => ?_) (fun c_43 => ?_)
      · refine lv_aload_n hx hb dX10_step_54 rfl (lv_at hl 0 rfl) ?_
        refine va_get (ci := 9) (v := .int (M.1 21)) hx hb hts iX10 hown hK hP 0 rfl rfl 21 (by decide) (hts _ w_832) (fun _ h9 => h9) rfl dX10_step_55 ?_
        refine lv_iconst (v := 2) hx hb dX10_step_58 (by decide) ?_
        refine lv_icmp_lt (tgt := 79) hx hb dX10_step_59 (by decide) (fun c_59 => ?_) (fun c_59 => ?_)
        · refine lv_aload_n hx hb dX10_step_79 rfl (lv_at hl 0 rfl) ?_
          refine va_get (ci := 9) (v := .int (M.1 21)) hx hb hts iX10 hown hK hP 0 rfl rfl 21 (by decide) (hts _ w_832) (fun _ h9 => h9) rfl dX10_step_80 ?_
          refine lv_bipush (v := 12) hx hb dX10_step_83 (by decide) ?_
          refine lv_icmp_eq (tgt := 97) hx hb dX10_step_85 (by decide) (fun c_85 => ?_) (fun c_85 => ?_)
          · refine lv_aload_n hx hb dX10_step_97 rfl (lv_at hl 0 rfl) ?_
            refine lv_iload_n hx hb dX10_step_98 rfl (lv_at hl 1 rfl) ?_
            refine za_cv (wc := zm_ws g h ad M) (wr := []) C hP hD hS [0, 1, 2, 3, 4, 5, 6, 7, 8, 9, 10, 11, 12, 13, 14, 15, 16, 17] [] rfl rfl (by decide) (by decide) (za_runV C hP hD hS [0, 1, 2, 3, 4, 5, 6, 7, 8, 9, 10, 11, 12, 13, 14, 15, 16, 17] rfl (by decide) rfl (kX10_dots l g E h ad M x hT) w_1054 mX10_dots 0 rfl rfl rfl rfl hl.1 rfl (Nat.le_of_ble_eq_true rfl) dX10_step_99 ⟨by decide, by decide⟩ ⟨by decide, by decide⟩) (fun M1 H locs hM1 hP hD hS => ?_)
            have hP : va_P g.1 vwCl (zm_ws g h ad M1) H := hP
            have hD : va_D A (zm_ws g h ad M1) := hD
            refine lv_goto (tgt := 170) hx hb dX10_step_102 (by decide) ?_
            subst hM1
            exact zm_rv hQ hx hb hr hlocks hK hP hD hS (by simp [zm_step, zq_upd, c_4, c_20, c_43, c_59, eq_true c_85]) dX10_step_170
          · refine lv_aload_n hx hb dX10_step_88 rfl (lv_at hl 0 rfl) ?_
            refine va_get (ci := 9) (v := .int (M.1 21)) hx hb hts iX10 hown hK hP 0 rfl rfl 21 (by decide) (hts _ w_832) (fun _ h9 => h9) rfl dX10_step_89 ?_
            refine lv_bipush (v := 13) hx hb dX10_step_92 (by decide) ?_
            refine lv_icmp_ne (tgt := 105) hx hb dX10_step_94 (by decide) (fun c_94 => ?_) (fun c_94 => ?_)
            · refine lv_aload_n hx hb dX10_step_105 rfl (lv_at hl 0 rfl) ?_
              refine va_get (ci := 9) (v := .int (M.1 21)) hx hb hts iX10 hown hK hP 0 rfl rfl 21 (by decide) (hts _ w_832) (fun _ h9 => h9) rfl dX10_step_106 ?_
              refine lv_bipush (v := 14) hx hb dX10_step_109 (by decide) ?_
              refine lv_icmp_ne (tgt := 122) hx hb dX10_step_111 (by decide) (fun c_111 => ?_) (fun c_111 => ?_)
              · refine lv_aload_n hx hb dX10_step_122 rfl (lv_at hl 0 rfl) ?_
                refine va_get (ci := 9) (v := .int (M.1 21)) hx hb hts iX10 hown hK hP 0 rfl rfl 21 (by decide) (hts _ w_832) (fun _ h9 => h9) rfl dX10_step_123 ?_
                refine lv_bipush (v := 15) hx hb dX10_step_126 (by decide) ?_
                refine lv_icmp_eq (tgt := 140) hx hb dX10_step_128 (by decide) (fun c_128 => ?_) (fun c_128 => ?_)
                · refine lv_aload_n hx hb dX10_step_140 rfl (lv_at hl 0 rfl) ?_
                  refine lv_iload_n hx hb dX10_step_141 rfl (lv_at hl 1 rfl) ?_
                  refine za_cv (wc := zm_ws g h ad M) (wr := []) C hP hD hS [0, 1, 2, 3, 4, 5, 6, 7, 8, 9, 10, 11, 12, 13, 14, 15, 16, 17] [] rfl rfl (by decide) (by decide) (za_runV C hP hD hS [0, 1, 2, 3, 4, 5, 6, 7, 8, 9, 10, 11, 12, 13, 14, 15, 16, 17] rfl (by decide) rfl (kX10_quoted l g E h ad M x hT (h4 (Or.inl c_128)).1 (h4 (Or.inl c_128)).2.1 D (h4 (Or.inl c_128)).2.2.1 (h4 (Or.inl c_128)).2.2.2) w_1062 mX10_quoted 0 rfl rfl rfl rfl hl.1 rfl (Nat.le_of_ble_eq_true rfl) dX10_step_142 ⟨by decide, by decide⟩ ⟨by decide, by decide⟩) (fun M2 H locs hM2 hP hD hS => ?_)
                  have hP : va_P g.1 vwCl (zm_ws g h ad M2) H := hP
                  have hD : va_D A (zm_ws g h ad M2) := hD
                  refine lv_goto (tgt := 170) hx hb dX10_step_145 (by decide) ?_
                  subst hM2
                  exact zm_rv hQ hx hb hr hlocks hK hP hD hS (by simp [zm_step, zq_upd, c_4, c_20, c_43, c_59, c_85, c_94, c_111, eq_true c_128]) dX10_step_170
                · refine lv_aload_n hx hb dX10_step_131 rfl (lv_at hl 0 rfl) ?_
                  refine va_get (ci := 9) (v := .int (M.1 21)) hx hb hts iX10 hown hK hP 0 rfl rfl 21 (by decide) (hts _ w_832) (fun _ h9 => h9) rfl dX10_step_132 ?_
                  refine lv_bipush (v := 16) hx hb dX10_step_135 (by decide) ?_
                  refine lv_icmp_ne (tgt := 148) hx hb dX10_step_137 (by decide) (fun c_137 => ?_) (fun c_137 => ?_)
                  · refine lv_aload_n hx hb dX10_step_148 rfl (lv_at hl 0 rfl) ?_
                    refine va_get (ci := 9) (v := .int (M.1 21)) hx hb hts iX10 hown hK hP 0 rfl rfl 21 (by decide) (hts _ w_832) (fun _ h9 => h9) rfl dX10_step_149 ?_
                    refine lv_bipush (v := 17) hx hb dX10_step_152 (by decide) ?_
                    refine lv_icmp_ne (tgt := 165) hx hb dX10_step_154 (by decide) (fun c_154 => ?_) (fun c_154 => ?_)
                    · refine lv_aload_n hx hb dX10_step_165 rfl (lv_at hl 0 rfl) ?_
                      refine lv_iload_n hx hb dX10_step_166 rfl (lv_at hl 1 rfl) ?_
                      refine za_cv (wc := zm_ws g h ad M) (wr := []) C hP hD hS [0, 1, 2, 3, 4, 5, 6, 7, 8, 9, 10, 11, 12, 13, 14, 15, 16, 17] [] rfl rfl (by decide) (by decide) (za_runV C hP hD hS [0, 1, 2, 3, 4, 5, 6, 7, 8, 9, 10, 11, 12, 13, 14, 15, 16, 17] rfl (by decide) rfl (kX10_comment l g E h ad M x hT (h4 (Or.inr (Or.inr (by simp [c_4, c_20, c_43, c_59, c_85, c_94, c_111, c_128, c_137, c_154])))).1 (h4 (Or.inr (Or.inr (by simp [c_4, c_20, c_43, c_59, c_85, c_94, c_111, c_128, c_137, c_154])))).2.1 D (h4 (Or.inr (Or.inr (by simp [c_4, c_20, c_43, c_59, c_85, c_94, c_111, c_128, c_137, c_154])))).2.2.1 (h4 (Or.inr (Or.inr (by simp [c_4, c_20, c_43, c_59, c_85, c_94, c_111, c_128, c_137, c_154])))).2.2.2) w_1094 mX10_comment 0 rfl rfl rfl rfl hl.1 rfl (Nat.le_of_ble_eq_true rfl) dX10_step_167 ⟨by decide, by decide⟩ ⟨by decide, by decide⟩) (fun M3 H locs hM3 hP hD hS => ?_)
                      have hP : va_P g.1 vwCl (zm_ws g h ad M3) H := hP
                      have hD : va_D A (zm_ws g h ad M3) := hD
                      subst hM3
                      exact zm_rv hQ hx hb hr hlocks hK hP hD hS (by simp [zm_step, zq_upd, c_4, c_20, c_43, c_59, c_85, c_94, c_111, c_128, c_137, c_154]) dX10_step_170
                    · refine lv_aload_n hx hb dX10_step_157 rfl (lv_at hl 0 rfl) ?_
                      refine lv_iload_n hx hb dX10_step_158 rfl (lv_at hl 1 rfl) ?_
                      refine za_cv (wc := zm_ws g h ad M) (wr := []) C hP hD hS [0, 1, 2, 3, 4, 5, 6, 7, 8, 9, 10, 11, 12, 13, 14, 15, 16, 17] [] rfl rfl (by decide) (by decide) (za_runV C hP hD hS [0, 1, 2, 3, 4, 5, 6, 7, 8, 9, 10, 11, 12, 13, 14, 15, 16, 17] rfl (by decide) rfl (kX10_slash l g E h ad M x k hT (h3 (Or.inr c_154)).1 (h3 (Or.inr c_154)).2.1 (h3 (Or.inr c_154)).2.2) w_1090 mX10_slash 0 rfl rfl rfl rfl hl.1 rfl (Nat.le_of_ble_eq_true rfl) dX10_step_159 ⟨by decide, by decide⟩ ⟨by decide, by decide⟩) (fun M4 H locs hM4 hP hD hS => ?_)
                      have hP : va_P g.1 vwCl (zm_ws g h ad M4) H := hP
                      have hD : va_D A (zm_ws g h ad M4) := hD
                      refine lv_goto (tgt := 170) hx hb dX10_step_162 (by decide) ?_
                      subst hM4
                      exact zm_rv hQ hx hb hr hlocks hK hP hD hS (by simp [zm_step, zq_upd, c_4, c_20, c_43, c_59, c_85, c_94, c_111, c_128, c_137, eq_true c_154]) dX10_step_170
                  · refine lv_aload_n hx hb dX10_step_140 rfl (lv_at hl 0 rfl) ?_
                    refine lv_iload_n hx hb dX10_step_141 rfl (lv_at hl 1 rfl) ?_
                    refine za_cv (wc := zm_ws g h ad M) (wr := []) C hP hD hS [0, 1, 2, 3, 4, 5, 6, 7, 8, 9, 10, 11, 12, 13, 14, 15, 16, 17] [] rfl rfl (by decide) (by decide) (za_runV C hP hD hS [0, 1, 2, 3, 4, 5, 6, 7, 8, 9, 10, 11, 12, 13, 14, 15, 16, 17] rfl (by decide) rfl (kX10_quoted l g E h ad M x hT (h4 (Or.inr (Or.inl c_137))).1 (h4 (Or.inr (Or.inl c_137))).2.1 D (h4 (Or.inr (Or.inl c_137))).2.2.1 (h4 (Or.inr (Or.inl c_137))).2.2.2) w_1062 mX10_quoted 0 rfl rfl rfl rfl hl.1 rfl (Nat.le_of_ble_eq_true rfl) dX10_step_142 ⟨by decide, by decide⟩ ⟨by decide, by decide⟩) (fun M5 H locs hM5 hP hD hS => ?_)
                    have hP : va_P g.1 vwCl (zm_ws g h ad M5) H := hP
                    have hD : va_D A (zm_ws g h ad M5) := hD
                    refine lv_goto (tgt := 170) hx hb dX10_step_145 (by decide) ?_
                    subst hM5
                    exact zm_rv hQ hx hb hr hlocks hK hP hD hS (by simp [zm_step, zq_upd, c_4, c_20, c_43, c_59, c_85, c_94, c_111, c_128, eq_true c_137]) dX10_step_170
              · refine lv_aload_n hx hb dX10_step_114 rfl (lv_at hl 0 rfl) ?_
                refine lv_iload_n hx hb dX10_step_115 rfl (lv_at hl 1 rfl) ?_
                refine za_cv (wc := zm_ws g h ad M) (wr := []) C hP hD hS [0, 1, 2, 3, 4, 5, 6, 7, 8, 9, 10, 11, 12, 13, 14, 15, 16, 17] [] rfl rfl (by decide) (by decide) (za_runV C hP hD hS [0, 1, 2, 3, 4, 5, 6, 7, 8, 9, 10, 11, 12, 13, 14, 15, 16, 17] rfl (by decide) rfl (kX10_sign l g E h ad M x k hT (h3 (Or.inl c_111)).1 (h3 (Or.inl c_111)).2.1 (h3 (Or.inl c_111)).2.2) w_1058 mX10_sign 0 rfl rfl rfl rfl hl.1 rfl (Nat.le_of_ble_eq_true rfl) dX10_step_116 ⟨by decide, by decide⟩ ⟨by decide, by decide⟩) (fun M6 H locs hM6 hP hD hS => ?_)
                have hP : va_P g.1 vwCl (zm_ws g h ad M6) H := hP
                have hD : va_D A (zm_ws g h ad M6) := hD
                refine lv_goto (tgt := 170) hx hb dX10_step_119 (by decide) ?_
                subst hM6
                exact zm_rv hQ hx hb hr hlocks hK hP hD hS (by simp [zm_step, zq_upd, c_4, c_20, c_43, c_59, c_85, c_94, eq_true c_111]) dX10_step_170
            · refine lv_aload_n hx hb dX10_step_97 rfl (lv_at hl 0 rfl) ?_
              refine lv_iload_n hx hb dX10_step_98 rfl (lv_at hl 1 rfl) ?_
              refine za_cv (wc := zm_ws g h ad M) (wr := []) C hP hD hS [0, 1, 2, 3, 4, 5, 6, 7, 8, 9, 10, 11, 12, 13, 14, 15, 16, 17] [] rfl rfl (by decide) (by decide) (za_runV C hP hD hS [0, 1, 2, 3, 4, 5, 6, 7, 8, 9, 10, 11, 12, 13, 14, 15, 16, 17] rfl (by decide) rfl (kX10_dots l g E h ad M x hT) w_1054 mX10_dots 0 rfl rfl rfl rfl hl.1 rfl (Nat.le_of_ble_eq_true rfl) dX10_step_99 ⟨by decide, by decide⟩ ⟨by decide, by decide⟩) (fun M7 H locs hM7 hP hD hS => ?_)
              have hP : va_P g.1 vwCl (zm_ws g h ad M7) H := hP
              have hD : va_D A (zm_ws g h ad M7) := hD
              refine lv_goto (tgt := 170) hx hb dX10_step_102 (by decide) ?_
              subst hM7
              exact zm_rv hQ hx hb hr hlocks hK hP hD hS (by simp [zm_step, zq_upd, c_4, c_20, c_43, c_59, c_85, eq_true c_94]) dX10_step_170
        · refine lv_aload_n hx hb dX10_step_62 rfl (lv_at hl 0 rfl) ?_
          refine va_get (ci := 9) (v := .int (M.1 21)) hx hb hts iX10 hown hK hP 0 rfl rfl 21 (by decide) (hts _ w_832) (fun _ h9 => h9) rfl dX10_step_63 ?_
          refine lv_bipush (v := 11) hx hb dX10_step_66 (by decide) ?_
          refine lv_icmp_gt (tgt := 79) hx hb dX10_step_68 (by decide) (fun c_68 => ?_) (fun c_68 => ?_)
          · refine lv_aload_n hx hb dX10_step_79 rfl (lv_at hl 0 rfl) ?_
            refine va_get (ci := 9) (v := .int (M.1 21)) hx hb hts iX10 hown hK hP 0 rfl rfl 21 (by decide) (hts _ w_832) (fun _ h9 => h9) rfl dX10_step_80 ?_
            refine lv_bipush (v := 12) hx hb dX10_step_83 (by decide) ?_
            refine lv_icmp_eq (tgt := 97) hx hb dX10_step_85 (by decide) (fun c_85 => ?_) (fun c_85 => ?_)
            · refine lv_aload_n hx hb dX10_step_97 rfl (lv_at hl 0 rfl) ?_
              refine lv_iload_n hx hb dX10_step_98 rfl (lv_at hl 1 rfl) ?_
              refine za_cv (wc := zm_ws g h ad M) (wr := []) C hP hD hS [0, 1, 2, 3, 4, 5, 6, 7, 8, 9, 10, 11, 12, 13, 14, 15, 16, 17] [] rfl rfl (by decide) (by decide) (za_runV C hP hD hS [0, 1, 2, 3, 4, 5, 6, 7, 8, 9, 10, 11, 12, 13, 14, 15, 16, 17] rfl (by decide) rfl (kX10_dots l g E h ad M x hT) w_1054 mX10_dots 0 rfl rfl rfl rfl hl.1 rfl (Nat.le_of_ble_eq_true rfl) dX10_step_99 ⟨by decide, by decide⟩ ⟨by decide, by decide⟩) (fun M8 H locs hM8 hP hD hS => ?_)
              have hP : va_P g.1 vwCl (zm_ws g h ad M8) H := hP
              have hD : va_D A (zm_ws g h ad M8) := hD
              refine lv_goto (tgt := 170) hx hb dX10_step_102 (by decide) ?_
              subst hM8
              exact zm_rv hQ hx hb hr hlocks hK hP hD hS (by simp [zm_step, zq_upd, c_4, c_20, c_43, c_59, c_68, eq_true c_85]) dX10_step_170
            · refine lv_aload_n hx hb dX10_step_88 rfl (lv_at hl 0 rfl) ?_
              refine va_get (ci := 9) (v := .int (M.1 21)) hx hb hts iX10 hown hK hP 0 rfl rfl 21 (by decide) (hts _ w_832) (fun _ h9 => h9) rfl dX10_step_89 ?_
              refine lv_bipush (v := 13) hx hb dX10_step_92 (by decide) ?_
              refine lv_icmp_ne (tgt := 105) hx hb dX10_step_94 (by decide) (fun c_94 => ?_) (fun c_94 => ?_)
              · refine lv_aload_n hx hb dX10_step_105 rfl (lv_at hl 0 rfl) ?_
                refine va_get (ci := 9) (v := .int (M.1 21)) hx hb hts iX10 hown hK hP 0 rfl rfl 21 (by decide) (hts _ w_832) (fun _ h9 => h9) rfl dX10_step_106 ?_
                refine lv_bipush (v := 14) hx hb dX10_step_109 (by decide) ?_
                refine lv_icmp_ne (tgt := 122) hx hb dX10_step_111 (by decide) (fun c_111 => ?_) (fun c_111 => ?_)
                · refine lv_aload_n hx hb dX10_step_122 rfl (lv_at hl 0 rfl) ?_
                  refine va_get (ci := 9) (v := .int (M.1 21)) hx hb hts iX10 hown hK hP 0 rfl rfl 21 (by decide) (hts _ w_832) (fun _ h9 => h9) rfl dX10_step_123 ?_
                  refine lv_bipush (v := 15) hx hb dX10_step_126 (by decide) ?_
                  refine lv_icmp_eq (tgt := 140) hx hb dX10_step_128 (by decide) (fun c_128 => ?_) (fun c_128 => ?_)
                  · refine lv_aload_n hx hb dX10_step_140 rfl (lv_at hl 0 rfl) ?_
                    refine lv_iload_n hx hb dX10_step_141 rfl (lv_at hl 1 rfl) ?_
                    refine za_cv (wc := zm_ws g h ad M) (wr := []) C hP hD hS [0, 1, 2, 3, 4, 5, 6, 7, 8, 9, 10, 11, 12, 13, 14, 15, 16, 17] [] rfl rfl (by decide) (by decide) (za_runV C hP hD hS [0, 1, 2, 3, 4, 5, 6, 7, 8, 9, 10, 11, 12, 13, 14, 15, 16, 17] rfl (by decide) rfl (kX10_quoted l g E h ad M x hT (h4 (Or.inl c_128)).1 (h4 (Or.inl c_128)).2.1 D (h4 (Or.inl c_128)).2.2.1 (h4 (Or.inl c_128)).2.2.2) w_1062 mX10_quoted 0 rfl rfl rfl rfl hl.1 rfl (Nat.le_of_ble_eq_true rfl) dX10_step_142 ⟨by decide, by decide⟩ ⟨by decide, by decide⟩) (fun M9 H locs hM9 hP hD hS => ?_)
                    have hP : va_P g.1 vwCl (zm_ws g h ad M9) H := hP
                    have hD : va_D A (zm_ws g h ad M9) := hD
                    refine lv_goto (tgt := 170) hx hb dX10_step_145 (by decide) ?_
                    subst hM9
                    exact zm_rv hQ hx hb hr hlocks hK hP hD hS (by simp [zm_step, zq_upd, c_4, c_20, c_43, c_59, c_68, c_85, c_94, c_111, eq_true c_128]) dX10_step_170
                  · refine lv_aload_n hx hb dX10_step_131 rfl (lv_at hl 0 rfl) ?_
                    refine va_get (ci := 9) (v := .int (M.1 21)) hx hb hts iX10 hown hK hP 0 rfl rfl 21 (by decide) (hts _ w_832) (fun _ h9 => h9) rfl dX10_step_132 ?_
                    refine lv_bipush (v := 16) hx hb dX10_step_135 (by decide) ?_
                    refine lv_icmp_ne (tgt := 148) hx hb dX10_step_137 (by decide) (fun c_137 => ?_) (fun c_137 => ?_)
                    · refine lv_aload_n hx hb dX10_step_148 rfl (lv_at hl 0 rfl) ?_
                      refine va_get (ci := 9) (v := .int (M.1 21)) hx hb hts iX10 hown hK hP 0 rfl rfl 21 (by decide) (hts _ w_832) (fun _ h9 => h9) rfl dX10_step_149 ?_
                      refine lv_bipush (v := 17) hx hb dX10_step_152 (by decide) ?_
                      refine lv_icmp_ne (tgt := 165) hx hb dX10_step_154 (by decide) (fun c_154 => ?_) (fun c_154 => ?_)
                      · refine lv_aload_n hx hb dX10_step_165 rfl (lv_at hl 0 rfl) ?_
                        refine lv_iload_n hx hb dX10_step_166 rfl (lv_at hl 1 rfl) ?_
                        refine za_cv (wc := zm_ws g h ad M) (wr := []) C hP hD hS [0, 1, 2, 3, 4, 5, 6, 7, 8, 9, 10, 11, 12, 13, 14, 15, 16, 17] [] rfl rfl (by decide) (by decide) (za_runV C hP hD hS [0, 1, 2, 3, 4, 5, 6, 7, 8, 9, 10, 11, 12, 13, 14, 15, 16, 17] rfl (by decide) rfl (kX10_comment l g E h ad M x hT (h4 (Or.inr (Or.inr (by simp [c_4, c_20, c_43, c_59, c_68, c_85, c_94, c_111, c_128, c_137, c_154])))).1 (h4 (Or.inr (Or.inr (by simp [c_4, c_20, c_43, c_59, c_68, c_85, c_94, c_111, c_128, c_137, c_154])))).2.1 D (h4 (Or.inr (Or.inr (by simp [c_4, c_20, c_43, c_59, c_68, c_85, c_94, c_111, c_128, c_137, c_154])))).2.2.1 (h4 (Or.inr (Or.inr (by simp [c_4, c_20, c_43, c_59, c_68, c_85, c_94, c_111, c_128, c_137, c_154])))).2.2.2) w_1094 mX10_comment 0 rfl rfl rfl rfl hl.1 rfl (Nat.le_of_ble_eq_true rfl) dX10_step_167 ⟨by decide, by decide⟩ ⟨by decide, by decide⟩) (fun M10 H locs hM10 hP hD hS => ?_)
                        have hP : va_P g.1 vwCl (zm_ws g h ad M10) H := hP
                        have hD : va_D A (zm_ws g h ad M10) := hD
                        subst hM10
                        exact zm_rv hQ hx hb hr hlocks hK hP hD hS (by simp [zm_step, zq_upd, c_4, c_20, c_43, c_59, c_68, c_85, c_94, c_111, c_128, c_137, c_154]) dX10_step_170
                      · refine lv_aload_n hx hb dX10_step_157 rfl (lv_at hl 0 rfl) ?_
                        refine lv_iload_n hx hb dX10_step_158 rfl (lv_at hl 1 rfl) ?_
                        refine za_cv (wc := zm_ws g h ad M) (wr := []) C hP hD hS [0, 1, 2, 3, 4, 5, 6, 7, 8, 9, 10, 11, 12, 13, 14, 15, 16, 17] [] rfl rfl (by decide) (by decide) (za_runV C hP hD hS [0, 1, 2, 3, 4, 5, 6, 7, 8, 9, 10, 11, 12, 13, 14, 15, 16, 17] rfl (by decide) rfl (kX10_slash l g E h ad M x k hT (h3 (Or.inr c_154)).1 (h3 (Or.inr c_154)).2.1 (h3 (Or.inr c_154)).2.2) w_1090 mX10_slash 0 rfl rfl rfl rfl hl.1 rfl (Nat.le_of_ble_eq_true rfl) dX10_step_159 ⟨by decide, by decide⟩ ⟨by decide, by decide⟩) (fun M11 H locs hM11 hP hD hS => ?_)
                        have hP : va_P g.1 vwCl (zm_ws g h ad M11) H := hP
                        have hD : va_D A (zm_ws g h ad M11) := hD
                        refine lv_goto (tgt := 170) hx hb dX10_step_162 (by decide) ?_
                        subst hM11
                        exact zm_rv hQ hx hb hr hlocks hK hP hD hS (by simp [zm_step, zq_upd, c_4, c_20, c_43, c_59, c_68, c_85, c_94, c_111, c_128, c_137, eq_true c_154]) dX10_step_170
                    · refine lv_aload_n hx hb dX10_step_140 rfl (lv_at hl 0 rfl) ?_
                      refine lv_iload_n hx hb dX10_step_141 rfl (lv_at hl 1 rfl) ?_
                      refine za_cv (wc := zm_ws g h ad M) (wr := []) C hP hD hS [0, 1, 2, 3, 4, 5, 6, 7, 8, 9, 10, 11, 12, 13, 14, 15, 16, 17] [] rfl rfl (by decide) (by decide) (za_runV C hP hD hS [0, 1, 2, 3, 4, 5, 6, 7, 8, 9, 10, 11, 12, 13, 14, 15, 16, 17] rfl (by decide) rfl (kX10_quoted l g E h ad M x hT (h4 (Or.inr (Or.inl c_137))).1 (h4 (Or.inr (Or.inl c_137))).2.1 D (h4 (Or.inr (Or.inl c_137))).2.2.1 (h4 (Or.inr (Or.inl c_137))).2.2.2) w_1062 mX10_quoted 0 rfl rfl rfl rfl hl.1 rfl (Nat.le_of_ble_eq_true rfl) dX10_step_142 ⟨by decide, by decide⟩ ⟨by decide, by decide⟩) (fun M12 H locs hM12 hP hD hS => ?_)
                      have hP : va_P g.1 vwCl (zm_ws g h ad M12) H := hP
                      have hD : va_D A (zm_ws g h ad M12) := hD
                      refine lv_goto (tgt := 170) hx hb dX10_step_145 (by decide) ?_
                      subst hM12
                      exact zm_rv hQ hx hb hr hlocks hK hP hD hS (by simp [zm_step, zq_upd, c_4, c_20, c_43, c_59, c_68, c_85, c_94, c_111, c_128, eq_true c_137]) dX10_step_170
                · refine lv_aload_n hx hb dX10_step_114 rfl (lv_at hl 0 rfl) ?_
                  refine lv_iload_n hx hb dX10_step_115 rfl (lv_at hl 1 rfl) ?_
                  refine za_cv (wc := zm_ws g h ad M) (wr := []) C hP hD hS [0, 1, 2, 3, 4, 5, 6, 7, 8, 9, 10, 11, 12, 13, 14, 15, 16, 17] [] rfl rfl (by decide) (by decide) (za_runV C hP hD hS [0, 1, 2, 3, 4, 5, 6, 7, 8, 9, 10, 11, 12, 13, 14, 15, 16, 17] rfl (by decide) rfl (kX10_sign l g E h ad M x k hT (h3 (Or.inl c_111)).1 (h3 (Or.inl c_111)).2.1 (h3 (Or.inl c_111)).2.2) w_1058 mX10_sign 0 rfl rfl rfl rfl hl.1 rfl (Nat.le_of_ble_eq_true rfl) dX10_step_116 ⟨by decide, by decide⟩ ⟨by decide, by decide⟩) (fun M13 H locs hM13 hP hD hS => ?_)
                  have hP : va_P g.1 vwCl (zm_ws g h ad M13) H := hP
                  have hD : va_D A (zm_ws g h ad M13) := hD
                  refine lv_goto (tgt := 170) hx hb dX10_step_119 (by decide) ?_
                  subst hM13
                  exact zm_rv hQ hx hb hr hlocks hK hP hD hS (by simp [zm_step, zq_upd, c_4, c_20, c_43, c_59, c_68, c_85, c_94, eq_true c_111]) dX10_step_170
              · refine lv_aload_n hx hb dX10_step_97 rfl (lv_at hl 0 rfl) ?_
                refine lv_iload_n hx hb dX10_step_98 rfl (lv_at hl 1 rfl) ?_
                refine za_cv (wc := zm_ws g h ad M) (wr := []) C hP hD hS [0, 1, 2, 3, 4, 5, 6, 7, 8, 9, 10, 11, 12, 13, 14, 15, 16, 17] [] rfl rfl (by decide) (by decide) (za_runV C hP hD hS [0, 1, 2, 3, 4, 5, 6, 7, 8, 9, 10, 11, 12, 13, 14, 15, 16, 17] rfl (by decide) rfl (kX10_dots l g E h ad M x hT) w_1054 mX10_dots 0 rfl rfl rfl rfl hl.1 rfl (Nat.le_of_ble_eq_true rfl) dX10_step_99 ⟨by decide, by decide⟩ ⟨by decide, by decide⟩) (fun M14 H locs hM14 hP hD hS => ?_)
                have hP : va_P g.1 vwCl (zm_ws g h ad M14) H := hP
                have hD : va_D A (zm_ws g h ad M14) := hD
                refine lv_goto (tgt := 170) hx hb dX10_step_102 (by decide) ?_
                subst hM14
                exact zm_rv hQ hx hb hr hlocks hK hP hD hS (by simp [zm_step, zq_upd, c_4, c_20, c_43, c_59, c_68, c_85, eq_true c_94]) dX10_step_170
          · refine lv_aload_n hx hb dX10_step_71 rfl (lv_at hl 0 rfl) ?_
            refine lv_iload_n hx hb dX10_step_72 rfl (lv_at hl 1 rfl) ?_
            refine za_cv (wc := zm_ws g h ad M) (wr := []) C hP hD hS [0, 1, 2, 3, 4, 5, 6, 7, 8, 9, 10, 11, 12, 13, 14, 15, 16, 17] [] rfl rfl (by decide) (by decide) (za_runV C hP hD hS [0, 1, 2, 3, 4, 5, 6, 7, 8, 9, 10, 11, 12, 13, 14, 15, 16, 17] rfl (by decide) rfl (kX10_numeral l g E h ad M x hT (h2 c_59 c_68).1 (h2 c_59 c_68).2) w_1035 mX10_numeral 0 rfl rfl rfl rfl hl.1 rfl (Nat.le_of_ble_eq_true rfl) dX10_step_73 ⟨by decide, by decide⟩ ⟨by decide, by decide⟩) (fun M15 H locs hM15 hP hD hS => ?_)
            have hP : va_P g.1 vwCl (zm_ws g h ad M15) H := hP
            have hD : va_D A (zm_ws g h ad M15) := hD
            refine lv_goto (tgt := 170) hx hb dX10_step_76 (by decide) ?_
            subst hM15
            exact zm_rv hQ hx hb hr hlocks hK hP hD hS (by simp [zm_step, zq_upd, c_4, c_20, c_43, c_59, c_68]) dX10_step_170
      · exact absurd c_43 c_20
    · refine lv_iload_n hx hb dX10_step_23 rfl (lv_at hl 1 rfl) ?_
      refine za_ci (wc := []) (wr := zm_ws g h ad M) C hP hD hS [] [0, 1, 2, 3, 4, 5, 6, 7, 8, 9, 10, 11, 12, 13, 14, 15, 16, 17] rfl rfl (by decide) (by decide) (za_runS C hP hD hS [] rfl (by decide) rfl (kX10_letter l g E  x ) w_993 mX10_letter rfl hl.1 rfl (Nat.le_of_ble_eq_true rfl) dX10_step_24 ⟨by decide, by decide⟩ ⟨by decide, by decide⟩) (fun r16 _ H locs hr16 hP hD hS => ?_)
      have hP : va_P g.1 vwCl (zm_ws g h ad M) H := hP
      have hD : va_D A (zm_ws g h ad M) := hD
      refine lv_if_ne (tgt := 37) hx hb dX10_step_27 (by decide) (fun c_27 => ?_) (fun c_27 => ?_)
      · subst hr16
        exact zm_rv hQ hx hb hr hlocks hK hP hD hS (by simp [zm_step, zq_upd, c_4, eq_true c_20, c_27]) dX10_step_37
      · refine lv_iload_n hx hb dX10_step_30 rfl (lv_at hl 1 rfl) ?_
        refine za_ci (wc := []) (wr := zm_ws g h ad M) C hP hD hS [] [0, 1, 2, 3, 4, 5, 6, 7, 8, 9, 10, 11, 12, 13, 14, 15, 16, 17] rfl rfl (by decide) (by decide) (za_runS C hP hD hS [] rfl (by decide) rfl (kX10_digit l g E  x ) w_996 mX10_digit rfl hl.1 rfl (Nat.le_of_ble_eq_true rfl) dX10_step_31 ⟨by decide, by decide⟩ ⟨by decide, by decide⟩) (fun r17 _ H locs hr17 hP hD hS => ?_)
        have hP : va_P g.1 vwCl (zm_ws g h ad M) H := hP
        have hD : va_D A (zm_ws g h ad M) := hD
        refine lv_if_eq (tgt := 38) hx hb dX10_step_34 (by decide) (fun c_34 => ?_) (fun c_34 => ?_)
        · refine lv_aload_n hx hb dX10_step_38 rfl (lv_at hl 0 rfl) ?_
          refine va_get (ci := 9) (v := .int (M.1 21)) hx hb hts iX10 hown hK hP 0 rfl rfl 21 (by decide) (hts _ w_832) (fun _ h9 => h9) rfl dX10_step_39 ?_
          refine lv_iconst (v := 1) hx hb dX10_step_42 (by decide) ?_
          refine lv_icmp_ne (tgt := 54) hx hb dX10_step_43 (by decide) (fun c_43 => ?_) (fun c_43 => ?_)
          · exact absurd c_20 c_43
          · refine lv_aload_n hx hb dX10_step_46 rfl (lv_at hl 0 rfl) ?_
            refine lv_iload_n hx hb dX10_step_47 rfl (lv_at hl 1 rfl) ?_
            refine za_cv (wc := zm_ws g h ad M) (wr := []) C hP hD hS [0, 1, 2, 3, 4, 5, 6, 7, 8, 9, 10, 11, 12, 13, 14, 15, 16, 17] [] rfl rfl (by decide) (by decide) (za_runV C hP hD hS [0, 1, 2, 3, 4, 5, 6, 7, 8, 9, 10, 11, 12, 13, 14, 15, 16, 17] rfl (by decide) rfl (kX10_named l g E h ad M x hT (h1 c_43).1 (h1 c_43).2.1 (h1 c_43).2.2) w_1014 mX10_named 0 rfl rfl rfl rfl hl.1 rfl (Nat.le_of_ble_eq_true rfl) dX10_step_48 ⟨by decide, by decide⟩ ⟨by decide, by decide⟩) (fun M18 H locs hM18 hP hD hS => ?_)
            have hP : va_P g.1 vwCl (zm_ws g h ad M18) H := hP
            have hD : va_D A (zm_ws g h ad M18) := hD
            refine lv_goto (tgt := 170) hx hb dX10_step_51 (by decide) ?_
            subst hM18
            subst hr17
            subst hr16
            exact zm_rv hQ hx hb hr hlocks hK hP hD hS (by simp [zm_step, zq_upd, c_4, eq_true c_20, eq_true c_27, eq_true c_34, eq_true c_43]) dX10_step_170
        · subst hr17
          subst hr16
          exact zm_rv hQ hx hb hr hlocks hK hP hD hS (by simp [zm_step, zq_upd, c_4, eq_true c_20, eq_true c_27, c_34]) dX10_step_37
  · refine lv_aload_n hx hb dX10_step_7 rfl (lv_at hl 0 rfl) ?_
    refine lv_iload_n hx hb dX10_step_8 rfl (lv_at hl 1 rfl) ?_
    refine za_cv (wc := zm_ws g h ad M) (wr := []) C hP hD hS [0, 1, 2, 3, 4, 5, 6, 7, 8, 9, 10, 11, 12, 13, 14, 15, 16, 17] [] rfl rfl (by decide) (by decide) (za_runV C hP hD hS [0, 1, 2, 3, 4, 5, 6, 7, 8, 9, 10, 11, 12, 13, 14, 15, 16, 17] rfl (by decide) rfl (kX10_gap l g E h ad M x hT) w_973 mX10_gap 0 rfl rfl rfl rfl hl.1 rfl (Nat.le_of_ble_eq_true rfl) dX10_step_9 ⟨by decide, by decide⟩ ⟨by decide, by decide⟩) (fun M19 H locs hM19 hP hD hS => ?_)
    have hP : va_P g.1 vwCl (zm_ws g h ad M19) H := hP
    have hD : va_D A (zm_ws g h ad M19) := hD
    refine lv_goto (tgt := 170) hx hb dX10_step_12 (by decide) ?_
    subst hM19
    exact zm_rv hQ hx hb hr hlocks hK hP hD hS (by simp [zm_step, zq_upd, eq_true c_4]) dX10_step_170
