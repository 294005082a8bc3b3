set_option maxHeartbeats 4000000 in
set_option maxRecDepth 100000 in
theorem kL_sign_in (l : Launch) (g : za_G) (E : za_E) (h : Nat) (ad : Nat → Nat) (M : zm_M) (q n x al : Int32) (k : Nat) (i : Nat) (hn : n = nI k) (hk : k < 65536) (hq : ∀ j : Nat, j < k → vp_in (q + nI j) 65536) (hi : i < 48) (hf : zr_signOf M q n x = zw_find (zw_signs.drop i) (fun j => if nI j < n then zr_byteAt M (q + nI j) else x) al (nI i)) {p : Program} {e : Env} {s : State} {m : MethodId} {args : Array Value} {below : List Frame} {meth : Method} {co : Code} {A : Nat → Prop} {Q : State → Prop} (C : za_H p s m args co cX10_signOf 9 RX10 g E A) (hQ : Q = MQ below (za_qi g (fun r (_ : Unit) => r = zr_signOf M q n x) (fun _ => zm_ws g h ad M) A) args s 0 0 A) (hr : meth.sig.returnType = (some .int)) (hlocks : meth.locks = false) (ihO : zr_signOf M q n x = zw_find (zw_signs.drop (i + 1)) (fun j => if nI j < n then zr_byteAt M (q + nI j) else x) al (nI (i + 1)) → ∀ (H : Heap) (locs : List Loc) (ls : Array Slot), va_S A s.heap H locs → va_P g.1 vwCl (zm_ws g h ad M) H → va_D A (zm_ws g h ad M) → lv_has ls 9 [(0, .ref h), (1, .int q), (2, .int n), (3, .int x), (4, .int (nI (i + 1))), (5, .int (nI (zw_pos zw_signs (i + 1)))), (6, .int al)] → W p l e (za_R 4 0 0) s m args below meth co H locs 0 0 Q (F0 m 20 ls [])) : ∀ (n_ : Nat) (j : Nat) (same : Int32), (j ≤ (zw_signs.getD i []).length) → (same = zw_sb (zw_signs.getD i []) (fun j => if nI j < n then zr_byteAt M (q + nI j) else x) al j) → (zw_signs.getD i []).length - j < n_ → ∀ (H : Heap) (locs : List Loc) (ls : Array Slot), va_S A s.heap H locs → va_P g.1 vwCl (zm_ws g h ad M) H → va_D A (zm_ws g h ad M) → lv_has ls 9 [(0, .ref h), (1, .int q), (2, .int n), (3, .int x), (4, .int (nI i)), (5, .int (nI (zw_pos zw_signs i))), (6, .int al), (7, .int (nI j)), (8, .int same)] → W p l e (za_R 4 0 0) s m args below meth co H locs 0 0 Q (F0 m 36 ls []) := by
  obtain ⟨hx, hb, hml, hown, hts, hK, hA, hE⟩ := id C
  intro n_
  induction n_ with
  | zero => intro j same hj hs hm; exact absurd hm (Nat.not_lt_zero _)
  | succ n_ ih =>
    intro j same hj hs hm H locs ls hS hP hD hl
    obtain ⟨t1, t2, t3, t4⟩ := zw_sign_tab i hi
    have t5 : zs_len.getD 5 0 = 125 := zw_sign_end.2.1
    have hch := t1 j hj
    refine va_ldcS hx hb hown (zs_R5 hE) dX10_signOf_36 ?_
    refine lv_iload hx hb dX10_signOf_38 (lv_at hl 5 rfl) ?_
    refine lv_iload hx hb dX10_signOf_40 (lv_at hl 7 rfl) ?_
    refine lv_iadd hx hb dX10_signOf_42 ?_
    refine za_top (v := nI (zw_pos zw_signs i + j)) (nI_add _ _) ?_
    refine za_ci (wc := []) (wr := zm_ws g h ad M) C hP hD hS [] [0, 1, 2, 3, 4, 5, 6, 7, 8, 9, 10, 11, 12, 13, 14, 15, 16, 17] rfl rfl (by decide) (by decide) (za_runVK C hP hD hS [] rfl (by decide) rfl (kJ0_charAt_5068e l g E 5 (by decide) (nI (zw_pos zw_signs i + j)) (by rw [t5]; exact vp_in_nI (by omega) (by omega))) w_1009 mJ0_charAt_5068e 5 (by decide) rfl rfl rfl hl.1 rfl (Nat.le_of_ble_eq_true rfl) dX10_signOf_43 ⟨by decide, by decide⟩ ⟨by decide, by decide⟩) (fun r1 _ H locs hr1 hP hD hS => ?_)
    subst hr1
    have hP : va_P g.1 vwCl (zm_ws g h ad M) H := hP
    have hD : va_D A (zm_ws g h ad M) := hD
    refine lv_bipush (v := 32) hx hb dX10_signOf_46 (by decide) ?_
    refine lv_icmp_eq (tgt := 107) hx hb dX10_signOf_48 (by decide) (fun c_48 => ?_) (fun c_48 => ?_)
    · have hje : j = (zw_signs.getD i []).length := by
        rcases Nat.lt_or_ge j (zw_signs.getD i []).length with h9 | h9
        · exact absurd (by rw [hch, if_pos h9] at c_48; exact c_48) (t2 j h9)
        · omega
      have hmt : (nI (zw_signs.getD i []).length = al ∧ ∀ t, t < (zw_signs.getD i []).length → (zw_signs.getD i []).getD t 0 = (fun j => if nI j < n then zr_byteAt M (q + nI j) else x) t) ↔ (¬ same = 0 ∧ nI j = al) := by
        rw [hs, hje]
        constructor
        · intro h9
          exact ⟨(zw_sb_all (by omega) h9.1).mpr h9.2, h9.1⟩
        · intro h9
          exact ⟨h9.2, (zw_sb_all (by omega) h9.2).mp h9.1⟩
      refine lv_iload hx hb dX10_signOf_107 (lv_at hl 8 rfl) ?_
      refine lv_if_eq (tgt := 122) hx hb dX10_signOf_109 (by decide) (fun c_109 => ?_) (fun c_109 => ?_)
      · refine lv_iload hx hb dX10_signOf_122 (lv_at hl 5 rfl) ?_
        refine lv_iload hx hb dX10_signOf_124 (lv_at hl 7 rfl) ?_
        refine lv_iconst (v := 1) hx hb dX10_signOf_126 (by decide) ?_
        refine lv_iadd hx hb dX10_signOf_127 ?_
        refine lv_iadd hx hb dX10_signOf_128 ?_
        refine za_top (v := nI (zw_pos zw_signs (i + 1))) (by rw [hje, nI_1, nI_add]; rfl) ?_
        refine lv_istore (lv' := [(5, .int (nI (zw_pos zw_signs (i + 1)))), (0, .ref h), (1, .int q), (2, .int n), (3, .int x), (4, .int (nI i)), (6, .int al), (7, .int (nI j)), (8, .int same)]) hx hb dX10_signOf_129 hl (by decide) rfl (fun ls hl => ?_)
        refine lv_iinc (v := nI (i + 1)) (lv' := [(4, .int (nI (i + 1))), (5, .int (nI (zw_pos zw_signs (i + 1)))), (0, .ref h), (1, .int q), (2, .int n), (3, .int x), (6, .int al), (7, .int (nI j)), (8, .int same)]) hx hb dX10_signOf_131 hl (k := 5) rfl (nI_1 i) (by decide) rfl (fun ls hl => ?_)
        refine lv_goto (tgt := 20) hx hb dX10_signOf_134 (by decide) ?_
        exact ihO (by rw [hf, zw_find_drop (by rw [zw_sign_end.2.2]; exact hi), if_neg (by rw [hmt]; simp [eq_true c_48, eq_true c_109]), nI_1]) H locs ls hS hP hD (lv_sub hl [2, 3, 4, 5, 0, 1, 6] rfl)
      · refine lv_iload hx hb dX10_signOf_112 (lv_at hl 7 rfl) ?_
        refine lv_iload hx hb dX10_signOf_114 (lv_at hl 6 rfl) ?_
        refine lv_icmp_ne (tgt := 122) hx hb dX10_signOf_116 (by decide) (fun c_116 => ?_) (fun c_116 => ?_)
        · refine lv_iload hx hb dX10_signOf_122 (lv_at hl 5 rfl) ?_
          refine lv_iload hx hb dX10_signOf_124 (lv_at hl 7 rfl) ?_
          refine lv_iconst (v := 1) hx hb dX10_signOf_126 (by decide) ?_
          refine lv_iadd hx hb dX10_signOf_127 ?_
          refine lv_iadd hx hb dX10_signOf_128 ?_
          refine za_top (v := nI (zw_pos zw_signs (i + 1))) (by rw [hje, nI_1, nI_add]; rfl) ?_
          refine lv_istore (lv' := [(5, .int (nI (zw_pos zw_signs (i + 1)))), (0, .ref h), (1, .int q), (2, .int n), (3, .int x), (4, .int (nI i)), (6, .int al), (7, .int (nI j)), (8, .int same)]) hx hb dX10_signOf_129 hl (by decide) rfl (fun ls hl => ?_)
          refine lv_iinc (v := nI (i + 1)) (lv' := [(4, .int (nI (i + 1))), (5, .int (nI (zw_pos zw_signs (i + 1)))), (0, .ref h), (1, .int q), (2, .int n), (3, .int x), (6, .int al), (7, .int (nI j)), (8, .int same)]) hx hb dX10_signOf_131 hl (k := 5) rfl (nI_1 i) (by decide) rfl (fun ls hl => ?_)
          refine lv_goto (tgt := 20) hx hb dX10_signOf_134 (by decide) ?_
          exact ihO (by rw [hf, zw_find_drop (by rw [zw_sign_end.2.2]; exact hi), if_neg (by rw [hmt]; simp [eq_true c_48, c_109, c_116]), nI_1]) H locs ls hS hP hD (lv_sub hl [2, 3, 4, 5, 0, 1, 6] rfl)
        · refine lv_iload hx hb dX10_signOf_119 (lv_at hl 4 rfl) ?_
          exact zm_ri hQ hx hb hr hlocks hK hP hD hS rfl (by rw [hf, zw_find_drop (by rw [zw_sign_end.2.2]; exact hi), if_pos (by rw [hmt]; simp [eq_true c_48, c_109, eq_true c_116])]) dX10_signOf_121
    · have hjl : j < (zw_signs.getD i []).length := by
        rcases Nat.lt_or_ge j (zw_signs.getD i []).length with h9 | h9
        · exact h9
        · exact absurd (by rw [hch, if_neg (by omega)]) c_48
      have hso : zw_sb (zw_signs.getD i []) (fun j => if nI j < n then zr_byteAt M (q + nI j) else x) al (j + 1) = if ¬ same = 0 ∧ nI j < al ∧ zs_ch 5 (nI (zw_pos zw_signs i + j)) = (fun j => if nI j < n then zr_byteAt M (q + nI j) else x) j then 1 else 0 := by
        rw [zw_sb_succ, hch, if_pos hjl, hs]
      have J_99 : ∀ (v : Int32) (H : Heap) (locs : List Loc), va_P g.1 vwCl (zm_ws g h ad M) H → va_S A s.heap H locs → v = (zw_sb (zw_signs.getD i []) (fun j => if nI j < n then zr_byteAt M (q + nI j) else x) al (j + 1)) → W p l e (za_R 4 0 0) s m args below meth co H locs 0 0 Q (F0 m 99 ls (.int v :: [])) := by
        intro v_99 H locs hP hS hv_99
        refine lv_istore (lv' := [(8, .int v_99), (0, .ref h), (1, .int q), (2, .int n), (3, .int x), (4, .int (nI i)), (5, .int (nI (zw_pos zw_signs i))), (6, .int al), (7, .int (nI j))]) hx hb dX10_signOf_99 hl (by decide) rfl (fun ls hl => ?_)
        refine lv_iinc (v := nI (j + 1)) (lv' := [(7, .int (nI (j + 1))), (8, .int v_99), (0, .ref h), (1, .int q), (2, .int n), (3, .int x), (4, .int (nI i)), (5, .int (nI (zw_pos zw_signs i))), (6, .int al)]) hx hb dX10_signOf_101 hl (k := 8) rfl (nI_1 j) (by decide) rfl (fun ls hl => ?_)
        refine lv_goto (tgt := 36) hx hb dX10_signOf_104 (by decide) ?_
        exact ih (j + 1) v_99 (hjl) (hv_99) (by omega) H locs ls hS hP hD (lv_sub hl [2, 3, 4, 5, 6, 7, 8, 0, 1] rfl)
      refine lv_iload hx hb dX10_signOf_51 (lv_at hl 8 rfl) ?_
      refine lv_if_eq (tgt := 98) hx hb dX10_signOf_53 (by decide) (fun c_53 => ?_) (fun c_53 => ?_)
      · refine lv_iconst (v := 0) hx hb dX10_signOf_98 (by decide) ?_
        exact J_99 0 H locs hP hS (by rw [hso]; simp [c_48, eq_true c_53])
      · refine lv_iload hx hb dX10_signOf_56 (lv_at hl 7 rfl) ?_
        refine lv_iload hx hb dX10_signOf_58 (lv_at hl 6 rfl) ?_
        refine za_icmp_ge (tgt := 98) hx hb dX10_signOf_60 (by decide) (fun c_60 => ?_) (fun c_60 => ?_)
        · refine lv_iconst (v := 0) hx hb dX10_signOf_98 (by decide) ?_
          exact J_99 0 H locs hP hS (by rw [hso]; simp [c_48, c_53, c_60])
        · refine va_ldcS hx hb hown (zs_R5 hE) dX10_signOf_63 ?_
          refine lv_iload hx hb dX10_signOf_65 (lv_at hl 5 rfl) ?_
          refine lv_iload hx hb dX10_signOf_67 (lv_at hl 7 rfl) ?_
          refine lv_iadd hx hb dX10_signOf_69 ?_
          refine za_top (v := nI (zw_pos zw_signs i + j)) (nI_add _ _) ?_
          refine za_ci (wc := []) (wr := zm_ws g h ad M) C hP hD hS [] [0, 1, 2, 3, 4, 5, 6, 7, 8, 9, 10, 11, 12, 13, 14, 15, 16, 17] rfl rfl (by decide) (by decide) (za_runVK C hP hD hS [] rfl (by decide) rfl (kJ0_charAt_5068e l g E 5 (by decide) (nI (zw_pos zw_signs i + j)) (by rw [t5]; exact vp_in_nI (by omega) (by omega))) w_1009 mJ0_charAt_5068e 5 (by decide) rfl rfl rfl hl.1 rfl (Nat.le_of_ble_eq_true rfl) dX10_signOf_70 ⟨by decide, by decide⟩ ⟨by decide, by decide⟩) (fun r2 _ H locs hr2 hP hD hS => ?_)
          subst hr2
          have hP : va_P g.1 vwCl (zm_ws g h ad M) H := hP
          have hD : va_D A (zm_ws g h ad M) := hD
          refine lv_iload hx hb dX10_signOf_73 (lv_at hl 7 rfl) ?_
          refine lv_iload_n hx hb dX10_signOf_75 rfl (lv_at hl 2 rfl) ?_
          refine za_icmp_ge (tgt := 90) hx hb dX10_signOf_76 (by decide) (fun c_76 => ?_) (fun c_76 => ?_)
          · refine lv_iload_n hx hb dX10_signOf_90 rfl (lv_at hl 3 rfl) ?_
            refine lv_icmp_ne (tgt := 98) hx hb dX10_signOf_91 (by decide) (fun c_91 => ?_) (fun c_91 => ?_)
            · refine lv_iconst (v := 0) hx hb dX10_signOf_98 (by decide) ?_
              exact J_99 0 H locs hP hS (by rw [hso]; simp [c_48, c_53, c_60, c_76, c_91])
            · refine lv_iconst (v := 1) hx hb dX10_signOf_94 (by decide) ?_
              refine lv_goto (tgt := 99) hx hb dX10_signOf_95 (by decide) ?_
              exact J_99 1 H locs hP hS (by rw [hso]; simp [c_48, c_53, c_60, c_76, eq_true c_91])
          · refine lv_aload_n hx hb dX10_signOf_79 rfl (lv_at hl 0 rfl) ?_
            refine lv_iload_n hx hb dX10_signOf_80 rfl (lv_at hl 1 rfl) ?_
            refine lv_iload hx hb dX10_signOf_81 (lv_at hl 7 rfl) ?_
            refine lv_iadd hx hb dX10_signOf_83 ?_
            refine za_ci (wc := zm_ws g h ad M) (wr := []) C hP hD hS [0, 1, 2, 3, 4, 5, 6, 7, 8, 9, 10, 11, 12, 13, 14, 15, 16, 17] [] rfl rfl (by decide) (by decide) (za_runV C hP hD hS [0, 1, 2, 3, 4, 5, 6, 7, 8, 9, 10, 11, 12, 13, 14, 15, 16, 17] rfl (by decide) rfl (kX10_byteAt l g E h ad M (q + (nI j)) (hq j (by rw [hn] at c_76; exact (nI_ltI (by omega) (by omega)).mp c_76))) w_965 mX10_byteAt 0 rfl rfl rfl rfl hl.1 rfl (Nat.le_of_ble_eq_true rfl) dX10_signOf_84 ⟨by decide, by decide⟩ ⟨by decide, by decide⟩) (fun r3 _ H locs hr3 hP hD hS => ?_)
            subst hr3
            have hP : va_P g.1 vwCl (zm_ws g h ad M) H := hP
            have hD : va_D A (zm_ws g h ad M) := hD
            refine lv_goto (tgt := 91) hx hb dX10_signOf_87 (by decide) ?_
            refine lv_icmp_ne (tgt := 98) hx hb dX10_signOf_91 (by decide) (fun c_91 => ?_) (fun c_91 => ?_)
            · refine lv_iconst (v := 0) hx hb dX10_signOf_98 (by decide) ?_
              exact J_99 0 H locs hP hS (by rw [hso]; simp [c_48, c_53, c_60, c_76, c_91])
            · refine lv_iconst (v := 1) hx hb dX10_signOf_94 (by decide) ?_
              refine lv_goto (tgt := 99) hx hb dX10_signOf_95 (by decide) ?_
              exact J_99 1 H locs hP hS (by rw [hso]; simp [c_48, c_53, c_60, c_76, eq_true c_91])
