theorem zm_N_congr {M M' : zm_M} (h : zm_N M) (h17 : M'.1 17 = M.1 17) (h3 : M'.1 3 = M.1 3) (a18 : M'.2.1 18 = M.2.1 18) (a19 : M'.2.1 19 = M.2.1 19) (a20 : M'.2.1 20 = M.2.1 20) (a5 : M'.2.1 5 = M.2.1 5) (a8 : M'.2.1 8 = M.2.1 8) : zm_N M' := by
  unfold zm_N at *
  rw [h17, h3, a18, a19, a20, a5, a8]
  exact h
set_option maxHeartbeats 4000000 in
set_option maxRecDepth 100000 in
theorem kL_nameK (l : Launch) (g : za_G) (E : za_E) (h : Nat) (ad : Nat → Nat) (M : zm_M) (w : Int32) (M1 : zm_M) (a b u : Nat) (h27 : M1.1 27 = nI a) (h23 : M1.1 23 = nI b) (h15 : M1.1 15 = nI u) (hba : b < a) (ha : a ≤ 60000) (hub : u ≤ b) (hti : vp_in (M1.1 3 - 1) 16384) (hN1 : zm_N M1) (hfin : zm_name M = let M2 := zm_keeps M1 (fun i => zr_byteAt M1 (M1.1 23 + nI i)) (a - b); let M3 := zm_a M2 13 (M2.1 3 - 1) (M2.1 27 - M2.1 23); if ¬ w < 0 then M3 else zm_numbered M3) {p : Program} {e : Env} {s : State} {m : MethodId} {args : Array Value} {below : List Frame} {meth : Method} {co : Code} {A : Nat → Prop} {Q : State → Prop} (C : za_H p s m args co cX10_name 4 RX10 g E A) (hQ : Q = MQ below (za_qv g (fun u : zm_M => u = zm_name M) (fun u => zm_ws g h ad u) A) args s 0 0 A) (hr : meth.sig.returnType = none) (hlocks : meth.locks = false)  : ∀ (n_ : Nat) (j : Nat), (b + j ≤ a) → a - (b + j) < n_ → ∀ (H : Heap) (locs : List Loc) (ls : Array Slot), va_S A s.heap H locs → va_P g.1 vwCl (zm_ws g h ad (zm_keeps M1 (fun i => zr_byteAt M1 (M1.1 23 + nI i)) j)) H → va_D A (zm_ws g h ad (zm_keeps M1 (fun i => zr_byteAt M1 (M1.1 23 + nI i)) j)) → lv_has ls 4 [(0, .ref h), (1, .int w), (2, .int (nI (b + j)))] → W p l e (za_R 5 0 0) s m args below meth co H locs 0 0 Q (F0 m 44 ls []) := by
  obtain ⟨hx, hb, hml, hown, hts, hK, hA, hE⟩ := id C
  intro n_
  induction n_ with
  | zero => intro j hj hm; exact absurd hm (Nat.not_lt_zero _)
  | succ n_ ih =>
    intro j hj hm H locs ls hS hP hD hl
    refine lv_iload_n hx hb dX10_name_44 rfl (lv_at hl 2 rfl) ?_
    refine lv_aload_n hx hb dX10_name_45 rfl (lv_at hl 0 rfl) ?_
    refine va_get (ci := 9) (v := .int ((zm_keeps M1 (fun i => zr_byteAt M1 (M1.1 23 + nI i)) j).1 27)) hx hb hts iX10 hown hK hP 0 rfl rfl 27 (by decide) (hts _ w_838) (fun _ h9 => h9) rfl dX10_name_46 ?_
    refine za_icmp_ge (tgt := 67) hx hb dX10_name_49 (by decide) (fun c_49 => ?_) (fun c_49 => ?_)
    · have hje : j = a - b := by
        rw [zm_keeps_f M1 (fun i => zr_byteAt M1 (M1.1 23 + nI i)) (by decide) j, h27] at c_49
        rcases Nat.lt_or_ge (b + j) a with h9 | h9
        · exact absurd (nI_lt h9 (by omega)) c_49
        · omega
      refine lv_aload_n hx hb dX10_name_67 rfl (lv_at hl 0 rfl) ?_
      refine va_get (ci := 9) (v := .ref (ad 13)) hx hb hts iX10 hown hK hP 0 rfl rfl 13 (by decide) (hts _ w_824) (fun _ h9 => h9) rfl dX10_name_68 ?_
      refine lv_aload_n hx hb dX10_name_71 rfl (lv_at hl 0 rfl) ?_
      refine va_get (ci := 9) (v := .int ((zm_keeps M1 (fun i => zr_byteAt M1 (M1.1 23 + nI i)) j).1 3)) hx hb hts iX10 hown hK hP 0 rfl rfl 3 (by decide) (hts _ w_814) (fun _ h9 => h9) rfl dX10_name_72 ?_
      refine lv_iconst (v := 1) hx hb dX10_name_75 (by decide) ?_
      refine lv_isub hx hb dX10_name_76 ?_
      refine lv_aload_n hx hb dX10_name_77 rfl (lv_at hl 0 rfl) ?_
      refine va_get (ci := 9) (v := .int ((zm_keeps M1 (fun i => zr_byteAt M1 (M1.1 23 + nI i)) j).1 27)) hx hb hts iX10 hown hK hP 0 rfl rfl 27 (by decide) (hts _ w_838) (fun _ h9 => h9) rfl dX10_name_78 ?_
      refine lv_aload_n hx hb dX10_name_81 rfl (lv_at hl 0 rfl) ?_
      refine va_get (ci := 9) (v := .int ((zm_keeps M1 (fun i => zr_byteAt M1 (M1.1 23 + nI i)) j).1 23)) hx hb hts iX10 hown hK hP 0 rfl rfl 23 (by decide) (hts _ w_834) (fun _ h9 => h9) rfl dX10_name_82 ?_
      refine lv_isub hx hb dX10_name_85 ?_
      refine va_iast (f := (zm_keeps M1 (fun i => zr_byteAt M1 (M1.1 23 + nI i)) j).2.1 13) hx hb hK hP hD hS 11 1 rfl rfl (by rw [zm_keeps_f M1 (fun i => zr_byteAt M1 (M1.1 23 + nI i)) (by decide) j]; exact hti) dX10_name_86 (fun H locs hP hD hS => ?_)
      have hP := zm_pa13 (X := (zm_keeps M1 (fun i => zr_byteAt M1 (M1.1 23 + nI i)) j)) hP
      have hD := zm_da13 (X := (zm_keeps M1 (fun i => zr_byteAt M1 (M1.1 23 + nI i)) j)) hD
      refine lv_iload_n hx hb dX10_name_87 rfl (lv_at hl 1 rfl) ?_
      refine lv_if_lt (tgt := 92) hx hb dX10_name_88 (by decide) (fun c_88 => ?_) (fun c_88 => ?_)
      · obtain ⟨M3, hM3⟩ : ∃ X : zm_M, X = zm_a (zm_keeps M1 (fun i => zr_byteAt M1 (M1.1 23 + nI i)) j) 13 (((zm_keeps M1 (fun i => zr_byteAt M1 (M1.1 23 + nI i)) j).1 3) - 1) (((zm_keeps M1 (fun i => zr_byteAt M1 (M1.1 23 + nI i)) j).1 27) - ((zm_keeps M1 (fun i => zr_byteAt M1 (M1.1 23 + nI i)) j).1 23)) := ⟨_, rfl⟩
        rw [← hM3] at hP hD
        have f27 : M3.1 27 = nI a := by rw [hM3]; show (zm_keeps M1 (fun i => zr_byteAt M1 (M1.1 23 + nI i)) j).1 27 = nI a; rw [zm_keeps_f M1 (fun i => zr_byteAt M1 (M1.1 23 + nI i)) (by decide) j]; exact h27
        have f23 : M3.1 23 = nI b := by rw [hM3]; show (zm_keeps M1 (fun i => zr_byteAt M1 (M1.1 23 + nI i)) j).1 23 = nI b; rw [zm_keeps_f M1 (fun i => zr_byteAt M1 (M1.1 23 + nI i)) (by decide) j]; exact h23
        have f3 : vp_in (M3.1 3 - 1) 16384 := by rw [hM3]; show vp_in ((zm_keeps M1 (fun i => zr_byteAt M1 (M1.1 23 + nI i)) j).1 3 - 1) 16384; rw [zm_keeps_f M1 (fun i => zr_byteAt M1 (M1.1 23 + nI i)) (by decide) j]; exact hti
        have fN : zm_N M3 := by
          refine zm_N_congr hN1 ?_ ?_ ?_ ?_ ?_ ?_ ?_ <;> rw [hM3]
          · exact zm_keeps_f M1 (fun i => zr_byteAt M1 (M1.1 23 + nI i)) (by decide) j
          · exact zm_keeps_f M1 (fun i => zr_byteAt M1 (M1.1 23 + nI i)) (by decide) j
          · exact zm_keeps_a M1 (fun i => zr_byteAt M1 (M1.1 23 + nI i)) (by decide) j
          · exact zm_keeps_a M1 (fun i => zr_byteAt M1 (M1.1 23 + nI i)) (by decide) j
          · exact zm_keeps_a M1 (fun i => zr_byteAt M1 (M1.1 23 + nI i)) (by decide) j
          · exact zm_keeps_a M1 (fun i => zr_byteAt M1 (M1.1 23 + nI i)) (by decide) j
          · exact zm_keeps_a M1 (fun i => zr_byteAt M1 (M1.1 23 + nI i)) (by decide) j
        have ff : zm_name M = zm_numbered M3 := by
          rw [hfin, ← hje, hM3]
          dsimp only
          rw [if_neg (fun h9 => h9 c_88)]
        have g1 : vp_in (M3.1 23) 65536 := by rw [f23]; exact vp_in_nI (by omega) (by omega)
        have g2 : vp_in (M3.1 27 - 1) 65536 := by rw [f27, show (1 : Int32) = nI 1 from rfl, pk_sub (by omega)]; exact vp_in_nI (by omega) (by omega)
        have g3 : vp_in ((M3.1 23 + M3.1 27) / 2) 65536 := by rw [f23, f27, nI_add, show (2 : Int32) = nI 2 from rfl, pk_div (by omega) (by decide) (by decide)]; exact vp_in_nI (by omega) (by omega)
        have fh := zr_hash_in f27 f23 hba ha
        refine lv_aload_n hx hb dX10_name_92 rfl (lv_at hl 0 rfl) ?_
        refine lv_aload_n hx hb dX10_name_93 rfl (lv_at hl 0 rfl) ?_
        refine va_get (ci := 9) (v := .int (M3.1 23)) hx hb hts iX10 hown hK hP 0 rfl rfl 23 (by decide) (hts _ w_834) (fun _ h9 => h9) rfl dX10_name_94 ?_
        refine za_ci (wc := zm_ws g h ad M3) (wr := []) C hP hD hS [0, 1, 2, 3, 4, 5, 6, 7, 8, 9, 10, 11, 12, 13, 14, 15, 16, 17] [] rfl rfl (by decide) (by decide) (za_runV C hP hD hS [0, 1, 2, 3, 4, 5, 6, 7, 8, 9, 10, 11, 12, 13, 14, 15, 16, 17] rfl (by decide) rfl (kX10_byteAt l g E h ad M3 (M3.1 23) g1) w_965 mX10_byteAt 0 rfl rfl rfl rfl hl.1 rfl (Nat.le_of_ble_eq_true rfl) dX10_name_97 ⟨by decide, by decide⟩ ⟨by decide, by decide⟩) (fun r1 _ H locs hr1 hP hD hS => ?_)
        subst hr1
        have hP : va_P g.1 vwCl (zm_ws g h ad M3) H := hP
        have hD : va_D A (zm_ws g h ad M3) := hD
        refine lv_bipush (v := 37) hx hb dX10_name_100 (by decide) ?_
        refine lv_imul hx hb dX10_name_102 ?_
        refine lv_aload_n hx hb dX10_name_103 rfl (lv_at hl 0 rfl) ?_
        refine lv_aload_n hx hb dX10_name_104 rfl (lv_at hl 0 rfl) ?_
        refine va_get (ci := 9) (v := .int (M3.1 27)) hx hb hts iX10 hown hK hP 0 rfl rfl 27 (by decide) (hts _ w_838) (fun _ h9 => h9) rfl dX10_name_105 ?_
        refine lv_iconst (v := 1) hx hb dX10_name_108 (by decide) ?_
        refine lv_isub hx hb dX10_name_109 ?_
        refine za_ci (wc := zm_ws g h ad M3) (wr := []) C hP hD hS [0, 1, 2, 3, 4, 5, 6, 7, 8, 9, 10, 11, 12, 13, 14, 15, 16, 17] [] rfl rfl (by decide) (by decide) (za_runV C hP hD hS [0, 1, 2, 3, 4, 5, 6, 7, 8, 9, 10, 11, 12, 13, 14, 15, 16, 17] rfl (by decide) rfl (kX10_byteAt l g E h ad M3 ((M3.1 27) - 1) g2) w_965 mX10_byteAt 0 rfl rfl rfl rfl hl.1 rfl (Nat.le_of_ble_eq_true rfl) dX10_name_110 ⟨by decide, by decide⟩ ⟨by decide, by decide⟩) (fun r2 _ H locs hr2 hP hD hS => ?_)
        subst hr2
        have hP : va_P g.1 vwCl (zm_ws g h ad M3) H := hP
        have hD : va_D A (zm_ws g h ad M3) := hD
        refine lv_bipush (v := 11) hx hb dX10_name_113 (by decide) ?_
        refine lv_imul hx hb dX10_name_115 ?_
        refine lv_iadd hx hb dX10_name_116 ?_
        refine lv_aload_n hx hb dX10_name_117 rfl (lv_at hl 0 rfl) ?_
        refine lv_aload_n hx hb dX10_name_118 rfl (lv_at hl 0 rfl) ?_
        refine va_get (ci := 9) (v := .int (M3.1 23)) hx hb hts iX10 hown hK hP 0 rfl rfl 23 (by decide) (hts _ w_834) (fun _ h9 => h9) rfl dX10_name_119 ?_
        refine lv_aload_n hx hb dX10_name_122 rfl (lv_at hl 0 rfl) ?_
        refine va_get (ci := 9) (v := .int (M3.1 27)) hx hb hts iX10 hown hK hP 0 rfl rfl 27 (by decide) (hts _ w_838) (fun _ h9 => h9) rfl dX10_name_123 ?_
        refine lv_iadd hx hb dX10_name_126 ?_
        refine lv_iconst (v := 2) hx hb dX10_name_127 (by decide) ?_
        refine lv_idiv hx hb dX10_name_128 (by decide) ?_
        refine za_ci (wc := zm_ws g h ad M3) (wr := []) C hP hD hS [0, 1, 2, 3, 4, 5, 6, 7, 8, 9, 10, 11, 12, 13, 14, 15, 16, 17] [] rfl rfl (by decide) (by decide) (za_runV C hP hD hS [0, 1, 2, 3, 4, 5, 6, 7, 8, 9, 10, 11, 12, 13, 14, 15, 16, 17] rfl (by decide) rfl (kX10_byteAt l g E h ad M3 (((M3.1 23) + (M3.1 27)) / 2) g3) w_965 mX10_byteAt 0 rfl rfl rfl rfl hl.1 rfl (Nat.le_of_ble_eq_true rfl) dX10_name_129 ⟨by decide, by decide⟩ ⟨by decide, by decide⟩) (fun r3 _ H locs hr3 hP hD hS => ?_)
        subst hr3
        have hP : va_P g.1 vwCl (zm_ws g h ad M3) H := hP
        have hD : va_D A (zm_ws g h ad M3) := hD
        refine lv_bipush (v := 101) hx hb dX10_name_132 (by decide) ?_
        refine lv_imul hx hb dX10_name_134 ?_
        refine lv_iadd hx hb dX10_name_135 ?_
        refine lv_aload_n hx hb dX10_name_136 rfl (lv_at hl 0 rfl) ?_
        refine va_get (ci := 9) (v := .int (M3.1 27)) hx hb hts iX10 hown hK hP 0 rfl rfl 27 (by decide) (hts _ w_838) (fun _ h9 => h9) rfl dX10_name_137 ?_
        refine lv_iadd hx hb dX10_name_140 ?_
        refine lv_aload_n hx hb dX10_name_141 rfl (lv_at hl 0 rfl) ?_
        refine va_get (ci := 9) (v := .int (M3.1 23)) hx hb hts iX10 hown hK hP 0 rfl rfl 23 (by decide) (hts _ w_834) (fun _ h9 => h9) rfl dX10_name_142 ?_
        refine lv_isub hx hb dX10_name_145 ?_
        refine lv_sipush (v := 4096) hx hb dX10_name_146 (by decide) ?_
        refine lv_irem hx hb dX10_name_149 (by decide) ?_
        refine za_top (v := zr_hash M3) (by unfold zr_hash; rfl) ?_
        refine lv_istore_n (lv' := [(2, .int (zr_hash M3)), (0, .ref h), (1, .int w)]) hx hb dX10_name_150 rfl hl (by decide) rfl (fun ls hl => ?_)
        refine lv_aload_n hx hb dX10_name_151 rfl (lv_at hl 1 rfl) ?_
        refine va_get (ci := 9) (v := .ref (ad 20)) hx hb hts iX10 hown hK hP 0 rfl rfl 20 (by decide) (hts _ w_831) (fun _ h9 => h9) rfl dX10_name_152 ?_
        refine lv_iload_n hx hb dX10_name_155 rfl (lv_at hl 0 rfl) ?_
        refine va_iald (f := M3.2.1 20) hx hb hK hP 16 1 rfl rfl fh dX10_name_156 ?_
        refine lv_istore_n (lv' := [(3, .int (M3.2.1 20 (zr_hash M3).toNatClampNeg)), (2, .int (zr_hash M3)), (0, .ref h), (1, .int w)]) hx hb dX10_name_157 rfl hl (by decide) rfl (fun ls hl => ?_)
        have h20 : M3.2.1 20 (zr_hash M3).toNatClampNeg < M3.1 17 := by
          obtain ⟨j9, q1, q2⟩ := vp_in_of fh (by decide)
          rw [q2, nI_clamp (by omega)]
          exact fN.2.1 j9 q1
        have h21 : M3.2.1 20 (zr_hash M3).toNatClampNeg < nI zr_F := by
          obtain ⟨n9, q1, q2⟩ := fN.1
          rw [q1] at h20
          exact Int32.lt_trans h20 (nI_lt (show n9 < zr_F by unfold zr_F; omega) (by decide))
        exact kL_chain l g E h ad M M3 a b (zr_hash M3) f27 f23 hba ha f3 fN rfl ff C hQ hr hlocks _ zr_F _ rfl h21 (Nat.le_refl _) h20 (Nat.lt_succ_self _) H locs ls hS hP hD (lv_sub hl [2, 1, 0] rfl)
      · exact zm_rv hQ hx hb hr hlocks hK hP hD hS (by rw [hfin, ← hje]; dsimp only; rw [if_pos c_88]) dX10_name_91
    · have hlt : b + j < a := by
        rw [zm_keeps_f M1 (fun i => zr_byteAt M1 (M1.1 23 + nI i)) (by decide) j, h27] at c_49
        exact (nI_ltI (by omega) (by omega)).mp c_49
      have e7 : zr_byteAt (zm_keeps M1 (fun i => zr_byteAt M1 (M1.1 23 + nI i)) j) (nI (b + j)) = zr_byteAt M1 (M1.1 23 + nI j) := by
        rw [zr_byteAt_1 (zm_keeps_a M1 (fun i => zr_byteAt M1 (M1.1 23 + nI i)) (by decide) j), h23, nI_add]
      refine lv_aload_n hx hb dX10_name_52 rfl (lv_at hl 0 rfl) ?_
      refine lv_aload_n hx hb dX10_name_53 rfl (lv_at hl 0 rfl) ?_
      refine lv_iload_n hx hb dX10_name_54 rfl (lv_at hl 2 rfl) ?_
      refine za_ci (wc := zm_ws g h ad (zm_keeps M1 (fun i => zr_byteAt M1 (M1.1 23 + nI i)) j)) (wr := []) C hP hD hS [0, 1, 2, 3, 4, 5, 6, 7, 8, 9, 10, 11, 12, 13, 14, 15, 16, 17] [] rfl rfl (by decide) (by decide) (za_runV C hP hD hS [0, 1, 2, 3, 4, 5, 6, 7, 8, 9, 10, 11, 12, 13, 14, 15, 16, 17] rfl (by decide) rfl (kX10_byteAt l g E h ad (zm_keeps M1 (fun i => zr_byteAt M1 (M1.1 23 + nI i)) j) (nI (b + j)) (vp_in_nI (by omega) (by omega))) w_965 mX10_byteAt 0 rfl rfl rfl rfl hl.1 rfl (Nat.le_of_ble_eq_true rfl) dX10_name_55 ⟨by decide, by decide⟩ ⟨by decide, by decide⟩) (fun r4 _ H locs hr4 hP hD hS => ?_)
      subst hr4
      have hP : va_P g.1 vwCl (zm_ws g h ad (zm_keeps M1 (fun i => zr_byteAt M1 (M1.1 23 + nI i)) j)) H := hP
      have hD : va_D A (zm_ws g h ad (zm_keeps M1 (fun i => zr_byteAt M1 (M1.1 23 + nI i)) j)) := hD
      refine za_cv (wc := zm_ws g h ad (zm_keeps M1 (fun i => zr_byteAt M1 (M1.1 23 + nI i)) j)) (wr := []) C hP hD hS [0, 1, 2, 3, 4, 5, 6, 7, 8, 9, 10, 11, 12, 13, 14, 15, 16, 17] [] rfl rfl (by decide) (by decide) (za_runV C hP hD hS [0, 1, 2, 3, 4, 5, 6, 7, 8, 9, 10, 11, 12, 13, 14, 15, 16, 17] rfl (by decide) rfl (kX10_keep l g E h ad (zm_keeps M1 (fun i => zr_byteAt M1 (M1.1 23 + nI i)) j) (zr_byteAt (zm_keeps M1 (fun i => zr_byteAt M1 (M1.1 23 + nI i)) j) (nI (b + j))) (by rw [zm_keeps_15 M1 (fun i => zr_byteAt M1 (M1.1 23 + nI i)) h15 j]; exact vp_in_nI (by omega) (by omega))) w_1027 mX10_keep 0 rfl rfl rfl rfl hl.1 rfl (Nat.le_of_ble_eq_true rfl) dX10_name_58 ⟨by decide, by decide⟩ ⟨by decide, by decide⟩) (fun M5 H locs hM5 hP hD hS => ?_)
      have hP : va_P g.1 vwCl (zm_ws g h ad M5) H := hP
      have hD : va_D A (zm_ws g h ad M5) := hD
      refine lv_iinc (v := nI (b + (j + 1))) (lv' := [(2, .int (nI (b + (j + 1)))), (0, .ref h), (1, .int w)]) hx hb dX10_name_61 hl (k := 2) rfl (nI_1 _) (by decide) rfl (fun ls hl => ?_)
      refine lv_goto (tgt := 44) hx hb dX10_name_64 (by decide) ?_
      have e8 : zm_keeps M1 (fun i => zr_byteAt M1 (M1.1 23 + nI i)) (j + 1) = M5 := by
        rw [hM5, e7]
        rfl
      rw [← e8] at hP hD
      exact ih (j + 1) (by omega) (by omega) H locs ls hS hP hD (lv_sub hl [1, 2, 0] rfl)
