set_option maxHeartbeats 4000000 in
set_option maxRecDepth 100000 in
theorem kL_sign_in (l : Launch) (g : za_G) (E : za_E) (h : Nat) (ad : Nat → Nat) (M : zm_M) (q n x al : Int32) (k : Nat) (i : Nat) (hn : n = nI k) (hk : k < 65536) (hq : ∀ j : Nat, j < k → vp_in (q + nI j) 65536) (hi : i < 48) (hf : zr_signOf M q n x = zw_find (zw_signs.drop i) (fun j => if nI j < n then zr_byteAt M (q + nI j) else x) al (nI i)) {p : Program} {e : Env} {s : State} {m : MethodId} {args : Array Value} {below : List Frame} {meth : Method} {co : Code} {A : Nat → Prop} {Q : State → Prop} (C : za_H p s m args co cX10_signOf 9 RX10 g E A) (hQ : Q = MQ below (za_qi g (fun r (_ : Unit) => r = zr_signOf M q n x) (fun _ => zm_ws g h ad M) A) args s 0 0 A) (hr : meth.sig.returnType = (some .int)) (hlocks : meth.locks = false) (ihO : zr_signOf M q n x = zw_find (zw_signs.drop (i + 1)) (fun j => if nI j < n then zr_byteAt M (q + nI j) else x) al (nI (i + 1)) → ∀ (H : Heap) (locs : List Loc) (ls : Array Slot), va_S A s.heap H locs → va_P g.1 vwCl (zm_ws g h ad M) H → va_D A (zm_ws g h ad M) → lv_has ls 9 [(0, .ref h), (1, .int q), (2, .int n), (3, .int x), (4, .int (nI (i + 1))), (5, .int (nI (zw_pos zw_signs (i + 1)))), (6, .int al)] → W p l e (za_R 4 0 0) s m args below meth co H locs 0 0 Q (F0 m 20 ls [])) : ∀ (n_ : Nat) (j : Nat) (same : Int32), (j ≤ (zw_signs.getD i []).length) → (same = zw_sb (zw_signs.getD i []) (fun j => if nI j < n then zr_byteAt M (q + nI j) else x) al j) → (zw_signs.getD i []).length - j < n_ → ∀ (H : Heap) (locs : List Loc) (ls : Array Slot), va_S A s.heap H locs → va_P g.1 vwCl (zm_ws g h ad M) H → va_D A (zm_ws g h ad M) → lv_has ls 9 [(0, .ref h), (1, .int q), (2, .int n), (3, .int x), (4, .int (nI i)), (5, .int (nI (zw_pos zw_signs i))), (6, .int al), (7, .int (nI j)), (8, .int same)] → W p l e (za_R 4 0 0) s m args below meth co H locs 0 0 Q (F0 m 36 ls []) := by
  obtain ⟨hx, hb, hml, hown, hts, hK, hA, hE⟩ := id C
  intro n_
  induction n_ with
  | zero => intro j same hj hs hm; exact absurd hm (Nat.not_lt_zero _)
  | succ n_ ih =>
    intro j same hj hs hm H locs ls hS hP hD hl
    obtain ⟨t1, t2, t3, t4⟩ := zw_sign_tab i hi
    have t5 : zs_len.getD 5 0 = 125 := zw_sign_end.2.1
    have hch := t1 j hj
    refine va_ldcS hx hb hown (zs_R5 hE) dX10_signOf_36 ?_
    refine lv_iload hx hb dX10_signOf_38 (lv_at hl 5 rfl) ?_
    refine lv_iload hx hb dX10_signOf_40 (lv_at hl 7 rfl) ?_
    refine lv_iadd hx hb dX10_signOf_42 ?_
    refine za_top (v := nI (zw_pos zw_signs i + j)) (nI_add _ _) ?_
    refine za_ci (wc := []) (wr := zm_ws g h ad M) C hP hD hS [] [0, 1, 2, 3, 4, 5, 6, 7, 8, 9, 10, 11, 12, 13, 14, 15, 16, 17] rfl rfl (by decide) (by decide) (za_runVK C hP hD hS [] rfl (by decide) rfl (kJ0_charAt_5068e l g E 5 (by decide) (nI (zw_pos zw_signs i + j)) (by rw [t5]; exact vp_in_nI (by omega) (by omega))) w_1009 mJ0_charAt_5068e 5 (by decide) rfl rfl rfl hl.1 rfl (Nat.le_of_ble_eq_true rfl) dX10_signOf_43 ⟨by decide, by decide⟩ ⟨by decide, by decide⟩) (fun r1 _ H locs hr1 hP hD hS => ?_)
    subst hr1
    have hP : va_P g.1 vwCl (zm_ws g h ad M) H := hP
    have hD : va_D A (zm_ws g h ad M) := hD
    refine lv_bipush (v := 32) hx hb dX10_signOf_46 (by decide) ?_
    refine lv_icmp_eq (tgt := 107) hx hb dX10_signOf_48 (by decide) (fun c_48 => ?_) (fun c_48 => ?_)
    · have hje : j = (zw_signs.getD i []).length := by
        rcases Nat.lt_or_ge j (zw_signs.getD i []).length with h9 | h9
        · exact absurd (by rw [hch, if_pos h9] at c_48; exact c_48) (t2 j h9)
        · omega
      have hmt : (nI (zw_signs.getD i []).length = al ∧ ∀ t, t < (zw_signs.getD i []).length → (zw_signs.getD i []).getD t 0 = (fun j => if nI j < n then zr_byteAt M (q + nI j) else x) t) ↔ (¬ same = 0 ∧ nI j = al) := by
        rw [hs, hje]
        constructor
        · intro h9
          exact ⟨(zw_sb_all (by omega) h9.1).mpr h9.2, h9.1⟩
        · intro h9
          exact ⟨h9.2, (zw_sb_all (by omega) h9.2).mp h9.1⟩
      refine lv_iload hx hb dX10_signOf_107 (lv_at hl 8 rfl) ?_
      refine lv_if_eq (tgt := 122) hx hb dX10_signOf_109 (by decide) (fun c_109 => ?_) (fun c_109 => ?_)
      · refine lv_iload hx hb dX10_signOf_122 (lv_at hl 5 rfl) ?_
        refine lv_iload hx hb dX10_signOf_124 (lv_at hl 7 rfl) ?_
        refine lv_iconst (v := 1) hx hb dX10_signOf_126 (by decide) ?_
        refine lv_iadd hx hb dX10_signOf_127 ?_
        refine lv_iadd hx hb dX10_signOf_128 ?_
        refine za_top (v := nI (zw_pos zw_signs (i + 1))) (by rw [hje, nI_1, nI_add]; rfl) ?_
        refine lv_istore (lv' := [(5, .int (nI (zw_pos zw_signs (i + 1)))), (0, .ref h), (1, .int q), (2, .int n), (3, .int x), (4, .int (nI i)), (6, .int al), (7, .int (nI j)), (8, .int same)]) hx hb dX10_signOf_129 hl (by decide) rfl (fun ls hl => ?_)
        refine lv_iinc (v := nI (i + 1)) (lv' := [(4, .int (nI (i + 1))), (5, .int (nI (zw_pos zw_signs (i + 1)))), (0, .ref h), (1, .int q), (2, .int n), (3, .int x), (6, .int al), (7, .int (nI j)), (8, .int same)]) hx hb dX10_signOf_131 hl (k := 5) rfl (nI_1 i) (by decide) rfl (fun ls hl => ?_)
        refine lv_goto (tgt := 20) hx hb dX10_signOf_134 (by decide) ?_
        exact ihO (by rw [hf, zw_find_drop (by rw [zw_sign_end.2.2]; exact hi), if_neg (by rw [hmt]; simp [eq_true c_48, eq_true c_109]), nI_1]) H locs ls hS hP hD (lv_sub hl [2, 3, 4, 5, 0, 1, 6] rfl)
      · refine lv_iload hx hb dX10_signOf_112 (lv_at hl 7 rfl) ?_
        refine lv_iload hx hb dX10_signOf_114 (lv_at hl 6 rfl) ?_
        refine lv_icmp_ne (tgt := 122) hx hb dX10_signOf_116 (by decide) (fun c_116 => ?_) (fun c_116 => ?_)
        · refine lv_iload hx hb dX10_signOf_122 (lv_at hl 5 rfl) ?_
          refine lv_iload hx hb dX10_signOf_124 (lv_at hl 7 rfl) ?_
          refine lv_iconst (v := 1) hx hb dX10_signOf_126 (by decide) ?_
          refine lv_iadd hx hb dX10_signOf_127 ?_
          refine lv_iadd hx hb dX10_signOf_128 ?_
          refine za_top (v := nI (zw_pos zw_signs (i + 1))) (by rw [hje, nI_1, nI_add]; rfl) ?_
          refine lv_istore (lv' := [(5, .int (nI (zw_pos zw_signs (i + 1)))), (0, .ref h), (1, .int q), (2, .int n), (3, .int x), (4, .int (nI i)), (6, .int al), (7, .int (nI j)), (8, .int same)]) hx hb dX10_signOf_129 hl (by decide) rfl (fun ls hl => ?_)
          refine lv_iinc (v := nI (i + 1)) (lv' := [(4, .int (nI (i + 1))), (5, .int (nI (zw_pos zw_signs (i + 1)))), (0, .ref h), (1, .int q), (2, .int n), (3, .int x), (6, .int al), (7, .int (nI j)), (8, .int same)]) hx hb dX10_signOf_131 hl (k := 5) rfl (nI_1 i) (by decide) rfl (fun ls hl => ?_)
          refine lv_goto (tgt := 20) hx hb dX10_signOf_134 (by decide) ?_
          exact ihO (by rw [hf, zw_find_drop (by rw [zw_sign_end.2.2]; exact hi), if_neg (by rw [hmt]; simp [eq_true c_48, c_109, c_116]), nI_1]) H locs ls hS hP hD (lv_sub hl [2, 3, 4, 5, 0, 1, 6] rfl)
        · refine lv_iload hx hb dX10_signOf_119 (lv_at hl 4 rfl) ?_
          exact zm_ri hQ hx hb hr hlocks hK hP hD hS rfl (by rw [hf, zw_find_drop (by rw [zw_sign_end.2.2]; exact hi), if_pos (by rw [hmt]; simp [eq_true c_48, c_109, eq_true c_116])]) dX10_signOf_121
    · have hjl : j < (zw_signs.getD i []).length := by
        rcases Nat.lt_or_ge j (zw_signs.getD i []).length with h9 | h9
        · exact h9
        · exact absurd (by rw [hch, if_neg (by omega)]) c_48
      have hso : zw_sb (zw_signs.getD i []) (fun j => if nI j < n then zr_byteAt M (q + nI j) else x) al (j + 1) = if ¬ same = 0 ∧ nI j < al ∧ zs_ch 5 (nI (zw_pos zw_signs i + j)) = (fun j => if nI j < n then zr_byteAt M (q + nI j) else x) j then 1 else 0 := by
        rw [zw_sb_succ, hch, if_pos hjl, hs]
      have J_99 : ∀ (v : Int32) (H : Heap) (locs : List Loc), va_P g.1 vwCl (zm_ws g h ad M) H → va_S A s.heap H locs → v = (zw_sb (zw_signs.getD i []) (fun j => if nI j < n then zr_byteAt M (q + nI j) else x) al (j + 1)) → W p l e (za_R 4 0 0) s m args below meth co H locs 0 0 Q (F0 m 99 ls (.int v :: [])) := by
        intro v_99 H locs hP hS hv_99
        refine lv_istore (lv' := [(8, .int v_99), (0, .ref h), (1, .int q), (2, .int n), (3, .int x), (4, .int (nI i)), (5, .int (nI (zw_pos zw_signs i))), (6, .int al), (7, .int (nI j))]) hx hb dX10_signOf_99 hl (by decide) rfl (fun ls hl => ?_)
        refine lv_iinc (v := nI (j + 1)) (lv' := [(7, .int (nI (j + 1))), (8, .int v_99), (0, .ref h), (1, .int q), (2, .int n), (3, .int x), (4, .int (nI i)), (5, .int (nI (zw_pos zw_signs i))), (6, .int al)]) hx hb dX10_signOf_101 hl (k := 8) rfl (nI_1 j) (by decide) rfl (fun ls hl => ?_)
        refine lv_goto (tgt := 36) hx hb dX10_signOf_104 (by decide) ?_
        exact ih (j + 1) v_99 (hjl) (hv_99) (by omega) H locs ls hS hP hD (lv_sub hl [2, 3, 4, 5, 6, 7, 8, 0, 1] rfl)
      refine lv_iload hx hb dX10_signOf_51 (lv_at hl 8 rfl) ?_
      refine lv_if_eq (tgt := 98) hx hb dX10_signOf_53 (by decide) (fun c_53 => ?_) (fun c_53 => ?_)
      · refine lv_iconst (v := 0) hx hb dX10_signOf_98 (by decide) ?_
        exact J_99 0 H locs hP hS (by rw [hso]; simp [c_48, eq_true c_53])
      · refine lv_iload hx hb dX10_signOf_56 (lv_at hl 7 rfl) ?_
        refine lv_iload hx hb dX10_signOf_58 (lv_at hl 6 rfl) ?_
        refine za_icmp_ge (tgt := 98) hx hb dX10_signOf_60 (by decide) (fun c_60 => ?_) (fun c_60 => ?_)
        · refine lv_iconst (v := 0) hx hb dX10_signOf_98 (by decide) ?_
          exact J_99 0 H locs hP hS (by rw [hso]; simp [c_48, c_53, c_60])
        · refine va_ldcS hx hb hown (zs_R5 hE) dX10_signOf_63 ?_
          refine lv_iload hx hb dX10_signOf_65 (lv_at hl 5 rfl) ?_
          refine lv_iload hx hb dX10_signOf_67 (lv_at hl 7 rfl) ?_
          refine lv_iadd hx hb dX10_signOf_69 ?_
          refine za_top (v := nI (zw_pos zw_signs i + j)) (nI_add _ _) ?_
          refine za_ci (wc := []) (wr := zm_ws g h ad M) C hP hD hS [] [0, 1, 2, 3, 4, 5, 6, 7, 8, 9, 10, 11, 12, 13, 14, 15, 16, 17] rfl rfl (by decide) (by decide) (za_runVK C hP hD hS [] rfl (by decide) rfl (kJ0_charAt_5068e l g E 5 (by decide) (nI (zw_pos zw_signs i + j)) (by rw [t5]; exact vp_in_nI (by omega) (by omega))) w_1009 mJ0_charAt_5068e 5 (by decide) rfl rfl rfl hl.1 rfl (Nat.le_of_ble_eq_true rfl) dX10_signOf_70 ⟨by decide, by decide⟩ ⟨by decide, by decide⟩) (fun r2 _ H locs hr2 hP hD hS => ?_)
          subst hr2
          have hP : va_P g.1 vwCl (zm_ws g h ad M) H := hP
          have hD : va_D A (zm_ws g h ad M) := hD
          refine lv_iload hx hb dX10_signOf_73 (lv_at hl 7 rfl) ?_
          refine lv_iload_n hx hb dX10_signOf_75 rfl (lv_at hl 2 rfl) ?_
          refine za_icmp_ge (tgt := 90) hx hb dX10_signOf_76 (by decide) (fun c_76 => ?_) (fun c_76 => ?_)
          · refine lv_iload_n hx hb dX10_signOf_90 rfl (lv_at hl 3 rfl) ?_
            refine lv_icmp_ne (tgt := 98) hx hb dX10_signOf_91 (by decide) (fun c_91 => ?_) (fun c_91 => ?_)
            · refine lv_iconst (v := 0) hx hb dX10_signOf_98 (by decide) ?_
              exact J_99 0 H locs hP hS (by rw [hso]; simp [c_48, c_53, c_60, c_76, c_91])
            · refine lv_iconst (v := 1) hx hb dX10_signOf_94 (by decide) ?_
              refine lv_goto (tgt := 99) hx hb dX10_signOf_95 (by decide) ?_
              exact J_99 1 H locs hP hS (by rw [hso]; simp [c_48, c_53, c_60, c_76, eq_true c_91])
          · refine lv_aload_n hx hb dX10_signOf_79 rfl (lv_at hl 0 rfl) ?_
            refine lv_iload_n hx hb dX10_signOf_80 rfl (lv_at hl 1 rfl) ?_
            refine lv_iload hx hb dX10_signOf_81 (lv_at hl 7 rfl) ?_
            refine lv_iadd hx hb dX10_signOf_83 ?_
            refine za_ci (wc := zm_ws g h ad M) (wr := []) C hP hD hS [0, 1, 2, 3, 4, 5, 6, 7, 8, 9, 10, 11, 12, 13, 14, 15, 16, 17] [] rfl rfl (by decide) (by decide) (za_runV C hP hD hS [0, 1, 2, 3, 4, 5, 6, 7, 8, 9, 10, 11, 12, 13, 14, 15, 16, 17] rfl (by decide) rfl (kX10_byteAt l g E h ad M (q + (nI j)) (hq j (by rw [hn] at c_76; exact (nI_ltI (by omega) (by omega)).mp c_76))) w_965 mX10_byteAt 0 rfl rfl rfl rfl hl.1 rfl (Nat.le_of_ble_eq_true rfl) dX10_signOf_84 ⟨by decide, by decide⟩ ⟨by decide, by decide⟩) (fun r3 _ H locs hr3 hP hD hS => ?_)
            subst hr3
            have hP : va_P g.1 vwCl (zm_ws g h ad M) H := hP
            have hD : va_D A (zm_ws g h ad M) := hD
            refine lv_goto (tgt := 91) hx hb dX10_signOf_87 (by decide) ?_
            refine lv_icmp_ne (tgt := 98) hx hb dX10_signOf_91 (by decide) (fun c_91 => ?_) (fun c_91 => ?_)
            · refine lv_iconst (v := 0) hx hb dX10_signOf_98 (by decide) ?_
              exact J_99 0 H locs hP hS (by rw [hso]; simp [c_48, c_53, c_60, c_76, c_91])
            · refine lv_iconst (v := 1) hx hb dX10_signOf_94 (by decide) ?_
              refine lv_goto (tgt := 99) hx hb dX10_signOf_95 (by decide) ?_
              exact J_99 1 H locs hP hS (by rw [hso]; simp [c_48, c_53, c_60, c_76, eq_true c_91])
set_option maxHeartbeats 4000000 in
set_option maxRecDepth 100000 in
theorem kL_sign_out (l : Launch) (g : za_G) (E : za_E) (h : Nat) (ad : Nat → Nat) (M : zm_M) (q n x al : Int32) (k : Nat) (hn : n = nI k) (hk : k < 65536) (hq : ∀ j : Nat, j < k → vp_in (q + nI j) 65536) {p : Program} {e : Env} {s : State} {m : MethodId} {args : Array Value} {below : List Frame} {meth : Method} {co : Code} {A : Nat → Prop} {Q : State → Prop} (C : za_H p s m args co cX10_signOf 9 RX10 g E A) (hQ : Q = MQ below (za_qi g (fun r (_ : Unit) => r = zr_signOf M q n x) (fun _ => zm_ws g h ad M) A) args s 0 0 A) (hr : meth.sig.returnType = (some .int)) (hlocks : meth.locks = false)  : ∀ (n_ : Nat) (i : Nat), (i ≤ 48) → (zr_signOf M q n x = zw_find (zw_signs.drop i) (fun j => if nI j < n then zr_byteAt M (q + nI j) else x) al (nI i)) → 48 - i < n_ → ∀ (H : Heap) (locs : List Loc) (ls : Array Slot), va_S A s.heap H locs → va_P g.1 vwCl (zm_ws g h ad M) H → va_D A (zm_ws g h ad M) → lv_has ls 9 [(0, .ref h), (1, .int q), (2, .int n), (3, .int x), (4, .int (nI i)), (5, .int (nI (zw_pos zw_signs i))), (6, .int al)] → W p l e (za_R 4 0 0) s m args below meth co H locs 0 0 Q (F0 m 20 ls []) := by
  obtain ⟨hx, hb, hml, hown, hts, hK, hA, hE⟩ := id C
  intro n_
  induction n_ with
  | zero => intro i hi hf hm; exact absurd hm (Nat.not_lt_zero _)
  | succ n_ ih =>
    intro i hi hf hm H locs ls hS hP hD hl
    have hz : zs_len.getD 5 0 = 125 := zw_sign_end.2.1
    refine lv_iload hx hb dX10_signOf_20 (lv_at hl 5 rfl) ?_
    refine va_ldcS hx hb hown (zs_R5 hE) dX10_signOf_22 ?_
    refine za_ci (wc := []) (wr := zm_ws g h ad M) C hP hD hS [] [0, 1, 2, 3, 4, 5, 6, 7, 8, 9, 10, 11, 12, 13, 14, 15, 16, 17] rfl rfl (by decide) (by decide) (za_runVK C hP hD hS [] rfl (by decide) rfl (kJ0_length_8abf5 l g E 5 (by decide)) w_1008 mJ0_length_8abf5 5 (by decide) rfl rfl rfl hl.1 rfl (Nat.le_of_ble_eq_true rfl) dX10_signOf_24 ⟨by decide, by decide⟩ ⟨by decide, by decide⟩) (fun r1 _ H locs hr1 hP hD hS => ?_)
    subst hr1
    have hP : va_P g.1 vwCl (zm_ws g h ad M) H := hP
    have hD : va_D A (zm_ws g h ad M) := hD
    refine za_icmp_ge (tgt := 137) hx hb dX10_signOf_27 (by decide) (fun c_27 => ?_) (fun c_27 => ?_)
    · have hi9 : i = 48 := by
        rcases Nat.lt_or_ge i 48 with h9 | h9
        · exfalso
          obtain ⟨t1, t2, t3, t4⟩ := zw_sign_tab i h9
          rw [hz] at c_27
          exact c_27 (nI_lt (by omega) (by decide))
        · omega
      refine lv_iconst (v := (-1)) hx hb dX10_signOf_137 (by decide) ?_
      exact zm_ri hQ hx hb hr hlocks hK hP hD hS rfl (by rw [hf, hi9]; rfl) dX10_signOf_138
    · have hi9 : i < 48 := by
        rcases Nat.lt_or_ge i 48 with h9 | h9
        · exact h9
        · have e9 : i = 48 := by omega
          rw [e9, zw_sign_end.1, hz] at c_27
          exact absurd c_27 (by decide)
      refine lv_iconst (v := 0) hx hb dX10_signOf_30 (by decide) ?_
      refine lv_istore (lv' := [(7, .int 0), (0, .ref h), (1, .int q), (2, .int n), (3, .int x), (4, .int (nI i)), (5, .int (nI (zw_pos zw_signs i))), (6, .int al)]) hx hb dX10_signOf_31 hl (by decide) rfl (fun ls hl => ?_)
      refine lv_iconst (v := 1) hx hb dX10_signOf_33 (by decide) ?_
      refine lv_istore (lv' := [(8, .int 1), (7, .int 0), (0, .ref h), (1, .int q), (2, .int n), (3, .int x), (4, .int (nI i)), (5, .int (nI (zw_pos zw_signs i))), (6, .int al)]) hx hb dX10_signOf_34 hl (by decide) rfl (fun ls hl => ?_)
      exact kL_sign_in l g E h ad M q n x al k i hn hk hq hi9 hf C hQ hr hlocks (fun hf2 H locs ls hS hP hD hl => ih (i + 1) (by omega) hf2 (by omega) H locs ls hS hP hD hl) _ 0 1 (Nat.zero_le _) (zw_sb_0.symm) (Nat.lt_succ_self _) H locs ls hS hP hD (lv_sub hl [2, 3, 4, 5, 6, 7, 8, 1, 0] rfl)
set_option maxHeartbeats 4000000 in
set_option maxRecDepth 100000 in
theorem kX10_signOf (l : Launch) (g : za_G) (E : za_E) (h : Nat) (ad : Nat → Nat) (M : zm_M) (q n x : Int32) (k : Nat) (hn : n = nI k) (hk : k < 65536) (hq : ∀ j : Nat, j < k → vp_in (q + nI j) 65536) : za_Ci l g E yX10_signOf cX10_signOf 9 ((some .int)) 4 0 0 [.ref h, .int q, .int n, .int x] (zm_ws g h ad M) (fun r (_ : Unit) => r = zr_signOf M q n x) (fun _ => zm_ws g h ad M) := by
  refine za_begin (by decide) (Nat.le_of_ble_eq_true rfl) RX10 rfl ?_
  intro p e s m args below meth co A ls Q H locs C hQ hr hlocks hnm hS hP hD hl
  obtain ⟨hx, hb, hml, hown, hts, hK, hA, hE⟩ := id C
  have hl : lv_has ls 9 [(0, .ref h), (1, .int q), (2, .int n), (3, .int x)] := hl
  refine lv_iconst (v := 0) hx hb dX10_signOf_0 (by decide) ?_
  refine lv_istore (lv' := [(4, .int 0), (0, .ref h), (1, .int q), (2, .int n), (3, .int x)]) hx hb dX10_signOf_1 hl (by decide) rfl (fun ls hl => ?_)
  refine lv_iconst (v := 0) hx hb dX10_signOf_3 (by decide) ?_
  refine lv_istore (lv' := [(5, .int 0), (4, .int 0), (0, .ref h), (1, .int q), (2, .int n), (3, .int x)]) hx hb dX10_signOf_4 hl (by decide) rfl (fun ls hl => ?_)
  have J_18 : ∀ v : Int32, v = (if x = -1 then n else n + 1) → W p l e (za_R 4 0 0) s m args below meth co H locs 0 0 Q (F0 m 18 ls (.int v :: [])) := by
    intro v_18 hv_18
    refine lv_istore (lv' := [(6, .int v_18), (5, .int 0), (4, .int 0), (0, .ref h), (1, .int q), (2, .int n), (3, .int x)]) hx hb dX10_signOf_18 hl (by decide) rfl (fun ls hl => ?_)
    exact kL_sign_out l g E h ad M q n x v_18 k hn hk hq C hQ hr hlocks _ 0 (by decide) (by rw [hv_18]; rfl) (Nat.lt_succ_self _) H locs ls hS hP hD (lv_sub hl [3, 4, 5, 6, 2, 1, 0] rfl)
  refine lv_iload_n hx hb dX10_signOf_6 rfl (lv_at hl 5 rfl) ?_
  refine lv_iconst (v := (-1)) hx hb dX10_signOf_7 (by decide) ?_
  refine lv_icmp_ne (tgt := 15) hx hb dX10_signOf_8 (by decide) (fun c_8 => ?_) (fun c_8 => ?_)
  · refine lv_iload_n hx hb dX10_signOf_15 rfl (lv_at hl 4 rfl) ?_
    refine lv_iconst (v := 1) hx hb dX10_signOf_16 (by decide) ?_
    refine lv_iadd hx hb dX10_signOf_17 ?_
    exact J_18 (n + 1) (by simp [c_8])
  · refine lv_iload_n hx hb dX10_signOf_11 rfl (lv_at hl 4 rfl) ?_
    refine lv_goto (tgt := 18) hx hb dX10_signOf_12 (by decide) ?_
    exact J_18 n (by simp [eq_true c_8])
set_option maxHeartbeats 4000000 in
set_option maxRecDepth 100000 in
theorem kL_word_in (l : Launch) (g : za_G) (E : za_E) (h : Nat) (ad : Nat → Nat) (M : zm_M) (k : Nat) (i : Nat) (hn : M.1 27 - M.1 23 = nI k) (hk : k < 65536) (hq : ∀ j : Nat, j < k → vp_in (M.1 23 + nI j) 65536) (hi : i < 25) (hf : zr_wordOf M = zw_find (zw_words.drop i) (fun j => zr_byteAt M (M.1 23 + nI j)) (M.1 27 - M.1 23) (nI i)) {p : Program} {e : Env} {s : State} {m : MethodId} {args : Array Value} {below : List Frame} {meth : Method} {co : Code} {A : Nat → Prop} {Q : State → Prop} (C : za_H p s m args co cX10_wordOf 5 RX10 g E A) (hQ : Q = MQ below (za_qi g (fun r (_ : Unit) => r = zr_wordOf M) (fun _ => zm_ws g h ad M) A) args s 0 0 A) (hr : meth.sig.returnType = (some .int)) (hlocks : meth.locks = false) (ihO : zr_wordOf M = zw_find (zw_words.drop (i + 1)) (fun j => zr_byteAt M (M.1 23 + nI j)) (M.1 27 - M.1 23) (nI (i + 1)) → ∀ (H : Heap) (locs : List Loc) (ls : Array Slot), va_S A s.heap H locs → va_P g.1 vwCl (zm_ws g h ad M) H → va_D A (zm_ws g h ad M) → lv_has ls 5 [(0, .ref h), (1, .int (nI (i + 1))), (2, .int (nI (zw_pos zw_words (i + 1))))] → W p l e (za_R 4 0 0) s m args below meth co H locs 0 0 Q (F0 m 4 ls [])) : ∀ (n_ : Nat) (j : Nat) (same : Int32), (j ≤ (zw_words.getD i []).length) → (same = zw_sb (zw_words.getD i []) (fun j => zr_byteAt M (M.1 23 + nI j)) (M.1 27 - M.1 23) j) → (zw_words.getD i []).length - j < n_ → ∀ (H : Heap) (locs : List Loc) (ls : Array Slot), va_S A s.heap H locs → va_P g.1 vwCl (zm_ws g h ad M) H → va_D A (zm_ws g h ad M) → lv_has ls 5 [(0, .ref h), (1, .int (nI i)), (2, .int (nI (zw_pos zw_words i))), (3, .int (nI j)), (4, .int same)] → W p l e (za_R 4 0 0) s m args below meth co H locs 0 0 Q (F0 m 18 ls []) := by
  obtain ⟨hx, hb, hml, hown, hts, hK, hA, hE⟩ := id C
  intro n_
  induction n_ with
  | zero => intro j same hj hs hm; exact absurd hm (Nat.not_lt_zero _)
  | succ n_ ih =>
    intro j same hj hs hm H locs ls hS hP hD hl
    obtain ⟨t1, t2, t3, t4⟩ := zw_word_tab i hi
    have t5 : zs_len.getD 6 0 = 154 := zw_word_end.2.1
    have hch := t1 j hj
    refine va_ldcS hx hb hown (zs_R6 hE) dX10_wordOf_18 ?_
    refine lv_iload_n hx hb dX10_wordOf_20 rfl (lv_at hl 2 rfl) ?_
    refine lv_iload_n hx hb dX10_wordOf_21 rfl (lv_at hl 3 rfl) ?_
    refine lv_iadd hx hb dX10_wordOf_22 ?_
    refine za_top (v := nI (zw_pos zw_words i + j)) (nI_add _ _) ?_
    refine za_ci (wc := []) (wr := zm_ws g h ad M) C hP hD hS [] [0, 1, 2, 3, 4, 5, 6, 7, 8, 9, 10, 11, 12, 13, 14, 15, 16, 17] rfl rfl (by decide) (by decide) (za_runVK C hP hD hS [] rfl (by decide) rfl (kJ0_charAt_5068e l g E 6 (by decide) (nI (zw_pos zw_words i + j)) (by rw [t5]; exact vp_in_nI (by omega) (by omega))) w_1009 mJ0_charAt_5068e 6 (by decide) rfl rfl rfl hl.1 rfl (Nat.le_of_ble_eq_true rfl) dX10_wordOf_23 ⟨by decide, by decide⟩ ⟨by decide, by decide⟩) (fun r1 _ H locs hr1 hP hD hS => ?_)
    subst hr1
    have hP : va_P g.1 vwCl (zm_ws g h ad M) H := hP
    have hD : va_D A (zm_ws g h ad M) := hD
    refine lv_bipush (v := 32) hx hb dX10_wordOf_26 (by decide) ?_
    refine lv_icmp_eq (tgt := 83) hx hb dX10_wordOf_28 (by decide) (fun c_28 => ?_) (fun c_28 => ?_)
    · have hje : j = (zw_words.getD i []).length := by
        rcases Nat.lt_or_ge j (zw_words.getD i []).length with h9 | h9
        · exact absurd (by rw [hch, if_pos h9] at c_28; exact c_28) (t2 j h9)
        · omega
      have hmt : (nI (zw_words.getD i []).length = M.1 27 - M.1 23 ∧ ∀ t, t < (zw_words.getD i []).length → (zw_words.getD i []).getD t 0 = (fun j => zr_byteAt M (M.1 23 + nI j)) t) ↔ (¬ same = 0 ∧ nI j = M.1 27 - M.1 23) := by
        rw [hs, hje]
        constructor
        · intro h9
          exact ⟨(zw_sb_all (by omega) h9.1).mpr h9.2, h9.1⟩
        · intro h9
          exact ⟨h9.2, (zw_sb_all (by omega) h9.2).mp h9.1⟩
      refine lv_iload hx hb dX10_wordOf_83 (lv_at hl 4 rfl) ?_
      refine lv_if_eq (tgt := 103) hx hb dX10_wordOf_85 (by decide) (fun c_85 => ?_) (fun c_85 => ?_)
      · refine lv_iload_n hx hb dX10_wordOf_103 rfl (lv_at hl 2 rfl) ?_
        refine lv_iload_n hx hb dX10_wordOf_104 rfl (lv_at hl 3 rfl) ?_
        refine lv_iconst (v := 1) hx hb dX10_wordOf_105 (by decide) ?_
        refine lv_iadd hx hb dX10_wordOf_106 ?_
        refine lv_iadd hx hb dX10_wordOf_107 ?_
        refine za_top (v := nI (zw_pos zw_words (i + 1))) (by rw [hje, nI_1, nI_add]; rfl) ?_
        refine lv_istore_n (lv' := [(2, .int (nI (zw_pos zw_words (i + 1)))), (0, .ref h), (1, .int (nI i)), (3, .int (nI j)), (4, .int same)]) hx hb dX10_wordOf_108 rfl hl (by decide) rfl (fun ls hl => ?_)
        refine lv_iinc (v := nI (i + 1)) (lv' := [(1, .int (nI (i + 1))), (2, .int (nI (zw_pos zw_words (i + 1)))), (0, .ref h), (3, .int (nI j)), (4, .int same)]) hx hb dX10_wordOf_109 hl (k := 2) rfl (nI_1 i) (by decide) rfl (fun ls hl => ?_)
        refine lv_goto (tgt := 4) hx hb dX10_wordOf_112 (by decide) ?_
        exact ihO (by rw [hf, zw_find_drop (by rw [zw_word_end.2.2]; exact hi), if_neg (by rw [hmt]; simp [eq_true c_28, eq_true c_85]), nI_1]) H locs ls hS hP hD (lv_sub hl [2, 0, 1] rfl)
      · refine lv_iload_n hx hb dX10_wordOf_88 rfl (lv_at hl 3 rfl) ?_
        refine lv_aload_n hx hb dX10_wordOf_89 rfl (lv_at hl 0 rfl) ?_
        refine va_get (ci := 9) (v := .int (M.1 27)) hx hb hts iX10 hown hK hP 0 rfl rfl 27 (by decide) (hts _ w_838) (fun _ h9 => h9) rfl dX10_wordOf_90 ?_
        refine lv_aload_n hx hb dX10_wordOf_93 rfl (lv_at hl 0 rfl) ?_
        refine va_get (ci := 9) (v := .int (M.1 23)) hx hb hts iX10 hown hK hP 0 rfl rfl 23 (by decide) (hts _ w_834) (fun _ h9 => h9) rfl dX10_wordOf_94 ?_
        refine lv_isub hx hb dX10_wordOf_97 ?_
        refine lv_icmp_ne (tgt := 103) hx hb dX10_wordOf_98 (by decide) (fun c_98 => ?_) (fun c_98 => ?_)
        · refine lv_iload_n hx hb dX10_wordOf_103 rfl (lv_at hl 2 rfl) ?_
          refine lv_iload_n hx hb dX10_wordOf_104 rfl (lv_at hl 3 rfl) ?_
          refine lv_iconst (v := 1) hx hb dX10_wordOf_105 (by decide) ?_
          refine lv_iadd hx hb dX10_wordOf_106 ?_
          refine lv_iadd hx hb dX10_wordOf_107 ?_
          refine za_top (v := nI (zw_pos zw_words (i + 1))) (by rw [hje, nI_1, nI_add]; rfl) ?_
          refine lv_istore_n (lv' := [(2, .int (nI (zw_pos zw_words (i + 1)))), (0, .ref h), (1, .int (nI i)), (3, .int (nI j)), (4, .int same)]) hx hb dX10_wordOf_108 rfl hl (by decide) rfl (fun ls hl => ?_)
          refine lv_iinc (v := nI (i + 1)) (lv' := [(1, .int (nI (i + 1))), (2, .int (nI (zw_pos zw_words (i + 1)))), (0, .ref h), (3, .int (nI j)), (4, .int same)]) hx hb dX10_wordOf_109 hl (k := 2) rfl (nI_1 i) (by decide) rfl (fun ls hl => ?_)
          refine lv_goto (tgt := 4) hx hb dX10_wordOf_112 (by decide) ?_
          exact ihO (by rw [hf, zw_find_drop (by rw [zw_word_end.2.2]; exact hi), if_neg (by rw [hmt]; simp [eq_true c_28, c_85, c_98]), nI_1]) H locs ls hS hP hD (lv_sub hl [2, 0, 1] rfl)
        · refine lv_iload_n hx hb dX10_wordOf_101 rfl (lv_at hl 1 rfl) ?_
          exact zm_ri hQ hx hb hr hlocks hK hP hD hS rfl (by rw [hf, zw_find_drop (by rw [zw_word_end.2.2]; exact hi), if_pos (by rw [hmt]; simp [eq_true c_28, c_85, eq_true c_98])]) dX10_wordOf_102
    · have hjl : j < (zw_words.getD i []).length := by
        rcases Nat.lt_or_ge j (zw_words.getD i []).length with h9 | h9
        · exact h9
        · exact absurd (by rw [hch, if_neg (by omega)]) c_28
      have hso : zw_sb (zw_words.getD i []) (fun j => zr_byteAt M (M.1 23 + nI j)) (M.1 27 - M.1 23) (j + 1) = if ¬ same = 0 ∧ nI j < M.1 27 - M.1 23 ∧ zs_ch 6 (nI (zw_pos zw_words i + j)) = (fun j => zr_byteAt M (M.1 23 + nI j)) j then 1 else 0 := by
        rw [zw_sb_succ, hch, if_pos hjl, hs]
      have J_75 : ∀ (v : Int32) (H : Heap) (locs : List Loc), va_P g.1 vwCl (zm_ws g h ad M) H → va_S A s.heap H locs → v = (zw_sb (zw_words.getD i []) (fun j => zr_byteAt M (M.1 23 + nI j)) (M.1 27 - M.1 23) (j + 1)) → W p l e (za_R 4 0 0) s m args below meth co H locs 0 0 Q (F0 m 75 ls (.int v :: [])) := by
        intro v_75 H locs hP hS hv_75
        refine lv_istore (lv' := [(4, .int v_75), (0, .ref h), (1, .int (nI i)), (2, .int (nI (zw_pos zw_words i))), (3, .int (nI j))]) hx hb dX10_wordOf_75 hl (by decide) rfl (fun ls hl => ?_)
        refine lv_iinc (v := nI (j + 1)) (lv' := [(3, .int (nI (j + 1))), (4, .int v_75), (0, .ref h), (1, .int (nI i)), (2, .int (nI (zw_pos zw_words i)))]) hx hb dX10_wordOf_77 hl (k := 4) rfl (nI_1 j) (by decide) rfl (fun ls hl => ?_)
        refine lv_goto (tgt := 18) hx hb dX10_wordOf_80 (by decide) ?_
        exact ih (j + 1) v_75 (hjl) (hv_75) (by omega) H locs ls hS hP hD (lv_sub hl [2, 3, 4, 0, 1] rfl)
      refine lv_iload hx hb dX10_wordOf_31 (lv_at hl 4 rfl) ?_
      refine lv_if_eq (tgt := 74) hx hb dX10_wordOf_33 (by decide) (fun c_33 => ?_) (fun c_33 => ?_)
      · refine lv_iconst (v := 0) hx hb dX10_wordOf_74 (by decide) ?_
        exact J_75 0 H locs hP hS (by rw [hso]; simp [c_28, eq_true c_33])
      · refine lv_iload_n hx hb dX10_wordOf_36 rfl (lv_at hl 3 rfl) ?_
        refine lv_aload_n hx hb dX10_wordOf_37 rfl (lv_at hl 0 rfl) ?_
        refine va_get (ci := 9) (v := .int (M.1 27)) hx hb hts iX10 hown hK hP 0 rfl rfl 27 (by decide) (hts _ w_838) (fun _ h9 => h9) rfl dX10_wordOf_38 ?_
        refine lv_aload_n hx hb dX10_wordOf_41 rfl (lv_at hl 0 rfl) ?_
        refine va_get (ci := 9) (v := .int (M.1 23)) hx hb hts iX10 hown hK hP 0 rfl rfl 23 (by decide) (hts _ w_834) (fun _ h9 => h9) rfl dX10_wordOf_42 ?_
        refine lv_isub hx hb dX10_wordOf_45 ?_
        refine za_icmp_ge (tgt := 74) hx hb dX10_wordOf_46 (by decide) (fun c_46 => ?_) (fun c_46 => ?_)
        · refine lv_iconst (v := 0) hx hb dX10_wordOf_74 (by decide) ?_
          exact J_75 0 H locs hP hS (by rw [hso]; simp [c_28, c_33, c_46])
        · refine va_ldcS hx hb hown (zs_R6 hE) dX10_wordOf_49 ?_
          refine lv_iload_n hx hb dX10_wordOf_51 rfl (lv_at hl 2 rfl) ?_
          refine lv_iload_n hx hb dX10_wordOf_52 rfl (lv_at hl 3 rfl) ?_
          refine lv_iadd hx hb dX10_wordOf_53 ?_
          refine za_top (v := nI (zw_pos zw_words i + j)) (nI_add _ _) ?_
          refine za_ci (wc := []) (wr := zm_ws g h ad M) C hP hD hS [] [0, 1, 2, 3, 4, 5, 6, 7, 8, 9, 10, 11, 12, 13, 14, 15, 16, 17] rfl rfl (by decide) (by decide) (za_runVK C hP hD hS [] rfl (by decide) rfl (kJ0_charAt_5068e l g E 6 (by decide) (nI (zw_pos zw_words i + j)) (by rw [t5]; exact vp_in_nI (by omega) (by omega))) w_1009 mJ0_charAt_5068e 6 (by decide) rfl rfl rfl hl.1 rfl (Nat.le_of_ble_eq_true rfl) dX10_wordOf_54 ⟨by decide, by decide⟩ ⟨by decide, by decide⟩) (fun r2 _ H locs hr2 hP hD hS => ?_)
          subst hr2
          have hP : va_P g.1 vwCl (zm_ws g h ad M) H := hP
          have hD : va_D A (zm_ws g h ad M) := hD
          refine lv_aload_n hx hb dX10_wordOf_57 rfl (lv_at hl 0 rfl) ?_
          refine lv_aload_n hx hb dX10_wordOf_58 rfl (lv_at hl 0 rfl) ?_
          refine va_get (ci := 9) (v := .int (M.1 23)) hx hb hts iX10 hown hK hP 0 rfl rfl 23 (by decide) (hts _ w_834) (fun _ h9 => h9) rfl dX10_wordOf_59 ?_
          refine lv_iload_n hx hb dX10_wordOf_62 rfl (lv_at hl 3 rfl) ?_
          refine lv_iadd hx hb dX10_wordOf_63 ?_
          refine za_ci (wc := zm_ws g h ad M) (wr := []) C hP hD hS [0, 1, 2, 3, 4, 5, 6, 7, 8, 9, 10, 11, 12, 13, 14, 15, 16, 17] [] rfl rfl (by decide) (by decide) (za_runV C hP hD hS [0, 1, 2, 3, 4, 5, 6, 7, 8, 9, 10, 11, 12, 13, 14, 15, 16, 17] rfl (by decide) rfl (kX10_byteAt l g E h ad M ((M.1 23) + (nI j)) (hq j (by rw [hn] at c_46; exact (nI_ltI (by omega) (by omega)).mp c_46))) w_965 mX10_byteAt 0 rfl rfl rfl rfl hl.1 rfl (Nat.le_of_ble_eq_true rfl) dX10_wordOf_64 ⟨by decide, by decide⟩ ⟨by decide, by decide⟩) (fun r3 _ H locs hr3 hP hD hS => ?_)
          subst hr3
          have hP : va_P g.1 vwCl (zm_ws g h ad M) H := hP
          have hD : va_D A (zm_ws g h ad M) := hD
          refine lv_icmp_ne (tgt := 74) hx hb dX10_wordOf_67 (by decide) (fun c_67 => ?_) (fun c_67 => ?_)
          · refine lv_iconst (v := 0) hx hb dX10_wordOf_74 (by decide) ?_
            exact J_75 0 H locs hP hS (by rw [hso]; simp [c_28, c_33, c_46, c_67])
          · refine lv_iconst (v := 1) hx hb dX10_wordOf_70 (by decide) ?_
            refine lv_goto (tgt := 75) hx hb dX10_wordOf_71 (by decide) ?_
            exact J_75 1 H locs hP hS (by rw [hso]; simp [c_28, c_33, c_46, eq_true c_67])
set_option maxHeartbeats 4000000 in
set_option maxRecDepth 100000 in
theorem kL_word_out (l : Launch) (g : za_G) (E : za_E) (h : Nat) (ad : Nat → Nat) (M : zm_M) (k : Nat) (hn : M.1 27 - M.1 23 = nI k) (hk : k < 65536) (hq : ∀ j : Nat, j < k → vp_in (M.1 23 + nI j) 65536) {p : Program} {e : Env} {s : State} {m : MethodId} {args : Array Value} {below : List Frame} {meth : Method} {co : Code} {A : Nat → Prop} {Q : State → Prop} (C : za_H p s m args co cX10_wordOf 5 RX10 g E A) (hQ : Q = MQ below (za_qi g (fun r (_ : Unit) => r = zr_wordOf M) (fun _ => zm_ws g h ad M) A) args s 0 0 A) (hr : meth.sig.returnType = (some .int)) (hlocks : meth.locks = false)  : ∀ (n_ : Nat) (i : Nat), (i ≤ 25) → (zr_wordOf M = zw_find (zw_words.drop i) (fun j => zr_byteAt M (M.1 23 + nI j)) (M.1 27 - M.1 23) (nI i)) → 25 - i < n_ → ∀ (H : Heap) (locs : List Loc) (ls : Array Slot), va_S A s.heap H locs → va_P g.1 vwCl (zm_ws g h ad M) H → va_D A (zm_ws g h ad M) → lv_has ls 5 [(0, .ref h), (1, .int (nI i)), (2, .int (nI (zw_pos zw_words i)))] → W p l e (za_R 4 0 0) s m args below meth co H locs 0 0 Q (F0 m 4 ls []) := by
  obtain ⟨hx, hb, hml, hown, hts, hK, hA, hE⟩ := id C
  intro n_
  induction n_ with
  | zero => intro i hi hf hm; exact absurd hm (Nat.not_lt_zero _)
  | succ n_ ih =>
    intro i hi hf hm H locs ls hS hP hD hl
    have hz : zs_len.getD 6 0 = 154 := zw_word_end.2.1
    refine lv_iload_n hx hb dX10_wordOf_4 rfl (lv_at hl 2 rfl) ?_
    refine va_ldcS hx hb hown (zs_R6 hE) dX10_wordOf_5 ?_
    refine za_ci (wc := []) (wr := zm_ws g h ad M) C hP hD hS [] [0, 1, 2, 3, 4, 5, 6, 7, 8, 9, 10, 11, 12, 13, 14, 15, 16, 17] rfl rfl (by decide) (by decide) (za_runVK C hP hD hS [] rfl (by decide) rfl (kJ0_length_8abf5 l g E 6 (by decide)) w_1008 mJ0_length_8abf5 6 (by decide) rfl rfl rfl hl.1 rfl (Nat.le_of_ble_eq_true rfl) dX10_wordOf_7 ⟨by decide, by decide⟩ ⟨by decide, by decide⟩) (fun r1 _ H locs hr1 hP hD hS => ?_)
    subst hr1
    have hP : va_P g.1 vwCl (zm_ws g h ad M) H := hP
    have hD : va_D A (zm_ws g h ad M) := hD
    refine za_icmp_ge (tgt := 115) hx hb dX10_wordOf_10 (by decide) (fun c_10 => ?_) (fun c_10 => ?_)
    · have hi9 : i = 25 := by
        rcases Nat.lt_or_ge i 25 with h9 | h9
        · exfalso
          obtain ⟨t1, t2, t3, t4⟩ := zw_word_tab i h9
          rw [hz] at c_10
          exact c_10 (nI_lt (by omega) (by decide))
        · omega
      refine lv_iconst (v := (-1)) hx hb dX10_wordOf_115 (by decide) ?_
      exact zm_ri hQ hx hb hr hlocks hK hP hD hS rfl (by rw [hf, hi9]; rfl) dX10_wordOf_116
    · have hi9 : i < 25 := by
        rcases Nat.lt_or_ge i 25 with h9 | h9
        · exact h9
        · have e9 : i = 25 := by omega
          rw [e9, zw_word_end.1, hz] at c_10
          exact absurd c_10 (by decide)
      refine lv_iconst (v := 0) hx hb dX10_wordOf_13 (by decide) ?_
      refine lv_istore_n (lv' := [(3, .int 0), (0, .ref h), (1, .int (nI i)), (2, .int (nI (zw_pos zw_words i)))]) hx hb dX10_wordOf_14 rfl hl (by decide) rfl (fun ls hl => ?_)
      refine lv_iconst (v := 1) hx hb dX10_wordOf_15 (by decide) ?_
      refine lv_istore (lv' := [(4, .int 1), (3, .int 0), (0, .ref h), (1, .int (nI i)), (2, .int (nI (zw_pos zw_words i)))]) hx hb dX10_wordOf_16 hl (by decide) rfl (fun ls hl => ?_)
      exact kL_word_in l g E h ad M k i hn hk hq hi9 hf C hQ hr hlocks (fun hf2 H locs ls hS hP hD hl => ih (i + 1) (by omega) hf2 (by omega) H locs ls hS hP hD hl) _ 0 1 (Nat.zero_le _) (zw_sb_0.symm) (Nat.lt_succ_self _) H locs ls hS hP hD (lv_sub hl [2, 3, 4, 1, 0] rfl)
set_option maxHeartbeats 4000000 in
set_option maxRecDepth 100000 in
theorem kX10_wordOf (l : Launch) (g : za_G) (E : za_E) (h : Nat) (ad : Nat → Nat) (M : zm_M) (k : Nat) (hn : M.1 27 - M.1 23 = nI k) (hk : k < 65536) (hq : ∀ j : Nat, j < k → vp_in (M.1 23 + nI j) 65536) : za_Ci l g E yX10_wordOf cX10_wordOf 5 ((some .int)) 4 0 0 [.ref h] (zm_ws g h ad M) (fun r (_ : Unit) => r = zr_wordOf M) (fun _ => zm_ws g h ad M) := by
  refine za_begin (by decide) (Nat.le_of_ble_eq_true rfl) RX10 rfl ?_
  intro p e s m args below meth co A ls Q H locs C hQ hr hlocks hnm hS hP hD hl
  obtain ⟨hx, hb, hml, hown, hts, hK, hA, hE⟩ := id C
  have hl : lv_has ls 5 [(0, .ref h)] := hl
  refine lv_iconst (v := 0) hx hb dX10_wordOf_0 (by decide) ?_
  refine lv_istore_n (lv' := [(1, .int 0), (0, .ref h)]) hx hb dX10_wordOf_1 rfl hl (by decide) rfl (fun ls hl => ?_)
  refine lv_iconst (v := 0) hx hb dX10_wordOf_2 (by decide) ?_
  refine lv_istore_n (lv' := [(2, .int 0), (1, .int 0), (0, .ref h)]) hx hb dX10_wordOf_3 rfl hl (by decide) rfl (fun ls hl => ?_)
  exact kL_word_out l g E h ad M k hn hk hq C hQ hr hlocks _ 0 (by decide) (by rfl) (Nat.lt_succ_self _) H locs ls hS hP hD (lv_sub hl [2, 1, 0] rfl)
