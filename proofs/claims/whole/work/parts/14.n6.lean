theorem zm_keepN_f (M : zm_M) (f : Nat → Int32) {i : Nat} (hi : i ≠ 15) : ∀ j, (zm_keepN M f j).1 i = M.1 i := by
  intro j
  induction j with
  | zero => rfl
  | succ j ih =>
    unfold zm_keepN
    dsimp only
    split
    · exact ih
    · show upd (zm_keepN M f j).1 15 _ i = M.1 i
      rw [zq_upd, if_neg hi]
      exact ih
theorem zm_keepN_a (M : zm_M) (f : Nat → Int32) {i : Nat} (hi : i ≠ 16) : ∀ j, (zm_keepN M f j).2.1 i = M.2.1 i := by
  intro j
  induction j with
  | zero => rfl
  | succ j ih =>
    unfold zm_keepN
    dsimp only
    split
    · exact ih
    · show (if i = 16 then _ else (zm_keepN M f j).2.1 i) = M.2.1 i
      rw [if_neg hi]
      exact ih
theorem zm_keepN_v (M : zm_M) (f : Nat → Int32) : ∀ j, (zm_keepN M f j).2.2 = M.2.2 := by
  intro j
  induction j with
  | zero => rfl
  | succ j ih =>
    unfold zm_keepN
    dsimp only
    split
    · exact ih
    · exact ih
theorem zm_keepN_15 (M : zm_M) (f : Nat → Int32) {u : Nat} (hu : M.1 15 = nI u) : ∀ j, ∃ v : Nat, (zm_keepN M f j).1 15 = nI v ∧ u ≤ v ∧ v ≤ u + j := by
  intro j
  induction j with
  | zero => exact ⟨u, hu, Nat.le_refl _, Nat.le_refl _⟩
  | succ j ih =>
    obtain ⟨v, h1, h2, h3⟩ := ih
    unfold zm_keepN
    dsimp only
    split
    · exact ⟨v, h1, h2, by omega⟩
    · refine ⟨v + 1, ?_, by omega, by omega⟩
      show (zm_keepN M f j).1 15 + 1 = nI (v + 1)
      rw [h1, nI_1]
theorem zr_byteAt_1 {M M' : zm_M} (h : M'.2.1 1 = M.2.1 1) (x : Int32) : zr_byteAt M' x = zr_byteAt M x := by
  unfold zr_byteAt
  rw [h]
theorem zm_value_f (M : zm_M) (t k : Int32) : ∀ j, (zm_value M t k j).1 = M.1 ∧ (zm_value M t k j).2.1 = M.2.1 := by
  intro j
  induction j with
  | zero => exact ⟨rfl, rfl⟩
  | succ j ih => exact ih
set_option maxHeartbeats 4000000 in
set_option maxRecDepth 100000 in
theorem kX10_digitsFrom (l : Launch) (g : za_G) (E : za_E) (h : Nat) (ad : Nat → Nat) (M : zm_M) (t : Int32) (ht : vp_in t 16384) (hp : vp_in (M.2.1 12 t.toNatClampNeg + 1) 65536) : za_Ci l g E yX10_digitsFrom cX10_digitsFrom 2 ((some .int)) 2 0 0 [.ref h, .int t] (zm_ws g h ad M) (fun r (_ : Unit) => r = zr_digitsFrom M t) (fun _ => zm_ws g h ad M) := by
  refine za_begin (by decide) (Nat.le_of_ble_eq_true rfl) RX10 rfl ?_
  intro p e s m args below meth co A ls Q H locs C hQ hr hlocks hnm hS hP hD hl
  obtain ⟨hx, hb, hml, hown, hts, hK, hA, hE⟩ := id C
  have hl : lv_has ls 2 [(0, .ref h), (1, .int t)] := hl
  refine lv_aload_n hx hb dX10_digitsFrom_0 rfl (lv_at hl 0 rfl) ?_
  refine va_get (ci := 9) (v := .ref (ad 11)) hx hb hts iX10 hown hK hP 0 rfl rfl 11 (by decide) (hts _ w_822) (fun _ h9 => h9) rfl dX10_digitsFrom_1 ?_
  refine lv_iload_n hx hb dX10_digitsFrom_4 rfl (lv_at hl 1 rfl) ?_
  refine va_iald (f := M.2.1 11) hx hb hK hP 9 1 rfl rfl ht dX10_digitsFrom_5 ?_
  refine lv_bipush (v := 10) hx hb dX10_digitsFrom_6 (by decide) ?_
  refine lv_icmp_eq (tgt := 42) hx hb dX10_digitsFrom_8 (by decide) (fun c_8 => ?_) (fun c_8 => ?_)
  · refine lv_aload_n hx hb dX10_digitsFrom_42 rfl (lv_at hl 0 rfl) ?_
    refine va_get (ci := 9) (v := .ref (ad 11)) hx hb hts iX10 hown hK hP 0 rfl rfl 11 (by decide) (hts _ w_822) (fun _ h9 => h9) rfl dX10_digitsFrom_43 ?_
    refine lv_iload_n hx hb dX10_digitsFrom_46 rfl (lv_at hl 1 rfl) ?_
    refine va_iald (f := M.2.1 11) hx hb hK hP 9 1 rfl rfl ht dX10_digitsFrom_47 ?_
    refine lv_iconst (v := 2) hx hb dX10_digitsFrom_48 (by decide) ?_
    refine lv_icmp_ne (tgt := 63) hx hb dX10_digitsFrom_49 (by decide) (fun c_49 => ?_) (fun c_49 => ?_)
    · refine lv_aload_n hx hb dX10_digitsFrom_63 rfl (lv_at hl 0 rfl) ?_
      refine va_get (ci := 9) (v := .ref (ad 12)) hx hb hts iX10 hown hK hP 0 rfl rfl 12 (by decide) (hts _ w_823) (fun _ h9 => h9) rfl dX10_digitsFrom_64 ?_
      refine lv_iload_n hx hb dX10_digitsFrom_67 rfl (lv_at hl 1 rfl) ?_
      refine va_iald (f := M.2.1 12) hx hb hK hP 10 1 rfl rfl ht dX10_digitsFrom_68 ?_
      exact zm_ri hQ hx hb hr hlocks hK hP hD hS rfl (by simp [zr_digitsFrom, zq_upd, eq_true c_8, c_49]) dX10_digitsFrom_69
    · refine lv_aload_n hx hb dX10_digitsFrom_52 rfl (lv_at hl 0 rfl) ?_
      refine va_get (ci := 9) (v := .ref (ad 12)) hx hb hts iX10 hown hK hP 0 rfl rfl 12 (by decide) (hts _ w_823) (fun _ h9 => h9) rfl dX10_digitsFrom_53 ?_
      refine lv_iload_n hx hb dX10_digitsFrom_56 rfl (lv_at hl 1 rfl) ?_
      refine va_iald (f := M.2.1 12) hx hb hK hP 10 1 rfl rfl ht dX10_digitsFrom_57 ?_
      refine lv_iconst (v := 2) hx hb dX10_digitsFrom_58 (by decide) ?_
      refine lv_iadd hx hb dX10_digitsFrom_59 ?_
      refine lv_goto (tgt := 69) hx hb dX10_digitsFrom_60 (by decide) ?_
      exact zm_ri hQ hx hb hr hlocks hK hP hD hS rfl (by simp [zr_digitsFrom, zq_upd, eq_true c_8, eq_true c_49]) dX10_digitsFrom_69
  · refine lv_aload_n hx hb dX10_digitsFrom_11 rfl (lv_at hl 0 rfl) ?_
    refine va_get (ci := 9) (v := .ref (ad 13)) hx hb hts iX10 hown hK hP 0 rfl rfl 13 (by decide) (hts _ w_824) (fun _ h9 => h9) rfl dX10_digitsFrom_12 ?_
    refine lv_iload_n hx hb dX10_digitsFrom_15 rfl (lv_at hl 1 rfl) ?_
    refine va_iald (f := M.2.1 13) hx hb hK hP 11 1 rfl rfl ht dX10_digitsFrom_16 ?_
    refine lv_iconst (v := 1) hx hb dX10_digitsFrom_17 (by decide) ?_
    refine za_icmp_le (tgt := 42) hx hb dX10_digitsFrom_18 (by decide) (fun c_18 => ?_) (fun c_18 => ?_)
    · refine lv_aload_n hx hb dX10_digitsFrom_42 rfl (lv_at hl 0 rfl) ?_
      refine va_get (ci := 9) (v := .ref (ad 11)) hx hb hts iX10 hown hK hP 0 rfl rfl 11 (by decide) (hts _ w_822) (fun _ h9 => h9) rfl dX10_digitsFrom_43 ?_
      refine lv_iload_n hx hb dX10_digitsFrom_46 rfl (lv_at hl 1 rfl) ?_
      refine va_iald (f := M.2.1 11) hx hb hK hP 9 1 rfl rfl ht dX10_digitsFrom_47 ?_
      refine lv_iconst (v := 2) hx hb dX10_digitsFrom_48 (by decide) ?_
      refine lv_icmp_ne (tgt := 63) hx hb dX10_digitsFrom_49 (by decide) (fun c_49 => ?_) (fun c_49 => ?_)
      · refine lv_aload_n hx hb dX10_digitsFrom_63 rfl (lv_at hl 0 rfl) ?_
        refine va_get (ci := 9) (v := .ref (ad 12)) hx hb hts iX10 hown hK hP 0 rfl rfl 12 (by decide) (hts _ w_823) (fun _ h9 => h9) rfl dX10_digitsFrom_64 ?_
        refine lv_iload_n hx hb dX10_digitsFrom_67 rfl (lv_at hl 1 rfl) ?_
        refine va_iald (f := M.2.1 12) hx hb hK hP 10 1 rfl rfl ht dX10_digitsFrom_68 ?_
        exact zm_ri hQ hx hb hr hlocks hK hP hD hS rfl (by simp [zr_digitsFrom, zq_upd, c_8, c_18, c_49]) dX10_digitsFrom_69
      · refine lv_aload_n hx hb dX10_digitsFrom_52 rfl (lv_at hl 0 rfl) ?_
        refine va_get (ci := 9) (v := .ref (ad 12)) hx hb hts iX10 hown hK hP 0 rfl rfl 12 (by decide) (hts _ w_823) (fun _ h9 => h9) rfl dX10_digitsFrom_53 ?_
        refine lv_iload_n hx hb dX10_digitsFrom_56 rfl (lv_at hl 1 rfl) ?_
        refine va_iald (f := M.2.1 12) hx hb hK hP 10 1 rfl rfl ht dX10_digitsFrom_57 ?_
        refine lv_iconst (v := 2) hx hb dX10_digitsFrom_58 (by decide) ?_
        refine lv_iadd hx hb dX10_digitsFrom_59 ?_
        refine lv_goto (tgt := 69) hx hb dX10_digitsFrom_60 (by decide) ?_
        exact zm_ri hQ hx hb hr hlocks hK hP hD hS rfl (by simp [zr_digitsFrom, zq_upd, c_8, c_18, eq_true c_49]) dX10_digitsFrom_69
    · refine lv_aload_n hx hb dX10_digitsFrom_21 rfl (lv_at hl 0 rfl) ?_
      refine va_get (ci := 9) (v := .ref (ad 16)) hx hb hts iX10 hown hK hP 0 rfl rfl 16 (by decide) (hts _ w_827) (fun _ h9 => h9) rfl dX10_digitsFrom_22 ?_
      refine lv_aload_n hx hb dX10_digitsFrom_25 rfl (lv_at hl 0 rfl) ?_
      refine va_get (ci := 9) (v := .ref (ad 12)) hx hb hts iX10 hown hK hP 0 rfl rfl 12 (by decide) (hts _ w_823) (fun _ h9 => h9) rfl dX10_digitsFrom_26 ?_
      refine lv_iload_n hx hb dX10_digitsFrom_29 rfl (lv_at hl 1 rfl) ?_
      refine va_iald (f := M.2.1 12) hx hb hK hP 10 1 rfl rfl ht dX10_digitsFrom_30 ?_
      refine lv_iconst (v := 1) hx hb dX10_digitsFrom_31 (by decide) ?_
      refine lv_iadd hx hb dX10_digitsFrom_32 ?_
      refine va_bald (f := M.2.1 16) hx hb hK hP 13 0 rfl rfl hp dX10_digitsFrom_33 ?_
      refine za_ci (wc := []) (wr := zm_ws g h ad M) C hP hD hS [] [0, 1, 2, 3, 4, 5, 6, 7, 8, 9, 10, 11, 12, 13, 14, 15, 16, 17] rfl rfl (by decide) (by decide) (za_runS C hP hD hS [] rfl (by decide) rfl (kX10_worth l g E  (M.2.1 16 ((M.2.1 12 t.toNatClampNeg) + 1).toNatClampNeg) ) w_1039 mX10_worth rfl hl.1 rfl (Nat.le_of_ble_eq_true rfl) dX10_digitsFrom_34 ⟨by decide, by decide⟩ ⟨by decide, by decide⟩) (fun r1 _ H locs hr1 hP hD hS => ?_)
      have hP : va_P g.1 vwCl (zm_ws g h ad M) H := hP
      have hD : va_D A (zm_ws g h ad M) := hD
      refine lv_bipush (v := 9) hx hb dX10_digitsFrom_37 (by decide) ?_
      refine lv_icmp_gt (tgt := 52) hx hb dX10_digitsFrom_39 (by decide) (fun c_39 => ?_) (fun c_39 => ?_)
      · refine lv_aload_n hx hb dX10_digitsFrom_52 rfl (lv_at hl 0 rfl) ?_
        refine va_get (ci := 9) (v := .ref (ad 12)) hx hb hts iX10 hown hK hP 0 rfl rfl 12 (by decide) (hts _ w_823) (fun _ h9 => h9) rfl dX10_digitsFrom_53 ?_
        refine lv_iload_n hx hb dX10_digitsFrom_56 rfl (lv_at hl 1 rfl) ?_
        refine va_iald (f := M.2.1 12) hx hb hK hP 10 1 rfl rfl ht dX10_digitsFrom_57 ?_
        refine lv_iconst (v := 2) hx hb dX10_digitsFrom_58 (by decide) ?_
        refine lv_iadd hx hb dX10_digitsFrom_59 ?_
        refine lv_goto (tgt := 69) hx hb dX10_digitsFrom_60 (by decide) ?_
        subst hr1
        exact zm_ri hQ hx hb hr hlocks hK hP hD hS rfl (by simp [zr_digitsFrom, zq_upd, c_8, c_18, c_39]) dX10_digitsFrom_69
      · refine lv_aload_n hx hb dX10_digitsFrom_42 rfl (lv_at hl 0 rfl) ?_
        refine va_get (ci := 9) (v := .ref (ad 11)) hx hb hts iX10 hown hK hP 0 rfl rfl 11 (by decide) (hts _ w_822) (fun _ h9 => h9) rfl dX10_digitsFrom_43 ?_
        refine lv_iload_n hx hb dX10_digitsFrom_46 rfl (lv_at hl 1 rfl) ?_
        refine va_iald (f := M.2.1 11) hx hb hK hP 9 1 rfl rfl ht dX10_digitsFrom_47 ?_
        refine lv_iconst (v := 2) hx hb dX10_digitsFrom_48 (by decide) ?_
        refine lv_icmp_ne (tgt := 63) hx hb dX10_digitsFrom_49 (by decide) (fun c_49 => ?_) (fun c_49 => ?_)
        · refine lv_aload_n hx hb dX10_digitsFrom_63 rfl (lv_at hl 0 rfl) ?_
          refine va_get (ci := 9) (v := .ref (ad 12)) hx hb hts iX10 hown hK hP 0 rfl rfl 12 (by decide) (hts _ w_823) (fun _ h9 => h9) rfl dX10_digitsFrom_64 ?_
          refine lv_iload_n hx hb dX10_digitsFrom_67 rfl (lv_at hl 1 rfl) ?_
          refine va_iald (f := M.2.1 12) hx hb hK hP 10 1 rfl rfl ht dX10_digitsFrom_68 ?_
          subst hr1
          exact zm_ri hQ hx hb hr hlocks hK hP hD hS rfl (by simp [zr_digitsFrom, zq_upd, c_8, c_18, c_39, c_49]) dX10_digitsFrom_69
        · refine lv_aload_n hx hb dX10_digitsFrom_52 rfl (lv_at hl 0 rfl) ?_
          refine va_get (ci := 9) (v := .ref (ad 12)) hx hb hts iX10 hown hK hP 0 rfl rfl 12 (by decide) (hts _ w_823) (fun _ h9 => h9) rfl dX10_digitsFrom_53 ?_
          refine lv_iload_n hx hb dX10_digitsFrom_56 rfl (lv_at hl 1 rfl) ?_
          refine va_iald (f := M.2.1 12) hx hb hK hP 10 1 rfl rfl ht dX10_digitsFrom_57 ?_
          refine lv_iconst (v := 2) hx hb dX10_digitsFrom_58 (by decide) ?_
          refine lv_iadd hx hb dX10_digitsFrom_59 ?_
          refine lv_goto (tgt := 69) hx hb dX10_digitsFrom_60 (by decide) ?_
          subst hr1
          exact zm_ri hQ hx hb hr hlocks hK hP hD hS rfl (by simp [zr_digitsFrom, zq_upd, c_8, c_18, c_39, eq_true c_49]) dX10_digitsFrom_69
set_option maxHeartbeats 4000000 in
set_option maxRecDepth 100000 in
theorem kL_numV (l : Launch) (g : za_G) (E : za_E) (h : Nat) (ad : Nat → Nat) (M : zm_M) (q : Int32) (M4 : zm_M) (t : Int32) (kk P : Nat) (ht : vp_in t 16384) (hP9 : M4.1 15 = nI P) (hP6 : P ≤ 65536) (hkk : kk ≤ 65540) (hfin : zm_number M q = if q = 0 then M4 else zm_value M4 t (nI kk) (P - kk)) {p : Program} {e : Env} {s : State} {m : MethodId} {args : Array Value} {below : List Frame} {meth : Method} {co : Code} {A : Nat → Prop} {Q : State → Prop} (C : za_H p s m args co cX10_number 4 RX10 g E A) (hQ : Q = MQ below (za_qv g (fun u : zm_M => u = zm_number M q) (fun u => zm_ws g h ad u) A) args s 0 0 A) (hr : meth.sig.returnType = none) (hlocks : meth.locks = false)  : ∀ (n_ : Nat) (j : Nat), (j = 0 ∨ kk + j ≤ P) → (q = 0 → j = 0) → P - (kk + j) < n_ → ∀ (H : Heap) (locs : List Loc) (ls : Array Slot), va_S A s.heap H locs → va_P g.1 vwCl (zm_ws g h ad (zm_value M4 t (nI kk) j)) H → va_D A (zm_ws g h ad (zm_value M4 t (nI kk) j)) → lv_has ls 4 [(0, .ref h), (1, .int q), (2, .int t), (3, .int (nI (kk + j)))] → W p l e (za_R 4 0 0) s m args below meth co H locs 0 0 Q (F0 m 117 ls []) := by
  obtain ⟨hx, hb, hml, hown, hts, hK, hA, hE⟩ := id C
  intro n_
  induction n_ with
  | zero => intro j hj hq0 hm; exact absurd hm (Nat.not_lt_zero _)
  | succ n_ ih =>
    intro j hj hq0 hm H locs ls hS hP hD hl
    refine lv_iload_n hx hb dX10_number_117 rfl (lv_at hl 3 rfl) ?_
    refine lv_aload_n hx hb dX10_number_118 rfl (lv_at hl 0 rfl) ?_
    refine va_get (ci := 9) (v := .int ((zm_value M4 t (nI kk) j).1 15)) hx hb hts iX10 hown hK hP 0 rfl rfl 15 (by decide) (hts _ w_826) (fun _ h9 => h9) rfl dX10_number_119 ?_
    refine za_icmp_ge (tgt := 164) hx hb dX10_number_122 (by decide) (fun c_122 => ?_) (fun c_122 => ?_)
    · have hfin9 : zm_value M4 t (nI kk) j = zm_number M q := by
        rw [hfin]
        rw [(zm_value_f M4 t (nI kk) j).1, hP9] at c_122
        have h9 : P ≤ kk + j := by
          rcases Nat.lt_or_ge (kk + j) P with q9 | q9
          · exact absurd (nI_lt q9 (by omega)) c_122
          · exact q9
        split
        · rename_i h8
          rw [hq0 h8]
          rfl
        · rw [show P - kk = j by omega]
      exact zm_rv hQ hx hb hr hlocks hK hP hD hS (by exact hfin9) dX10_number_164
    · have hlt : kk + j < P := by
        rw [(zm_value_f M4 t (nI kk) j).1, hP9] at c_122
        exact (nI_ltI (by omega) (by omega)).mp c_122
      refine lv_iload_n hx hb dX10_number_125 rfl (lv_at hl 1 rfl) ?_
      refine lv_if_eq (tgt := 164) hx hb dX10_number_126 (by decide) (fun c_126 => ?_) (fun c_126 => ?_)
      · have hfin9 : zm_value M4 t (nI kk) j = zm_number M q := by
          rw [hfin]
          rw [if_pos c_126, hq0 c_126]
          rfl
        exact zm_rv hQ hx hb hr hlocks hK hP hD hS (by exact hfin9) dX10_number_164
      · refine lv_aload_n hx hb dX10_number_129 rfl (lv_at hl 0 rfl) ?_
        refine va_get (ci := 9) (v := .ref (ad 14)) hx hb hts iX10 hown hK hP 0 rfl rfl 14 (by decide) (hts _ w_825) (fun _ h9 => h9) rfl dX10_number_130 ?_
        refine lv_iload_n hx hb dX10_number_133 rfl (lv_at hl 2 rfl) ?_
        refine lv_aload_n hx hb dX10_number_134 rfl (lv_at hl 0 rfl) ?_
        refine va_get (ci := 9) (v := .ref (ad 14)) hx hb hts iX10 hown hK hP 0 rfl rfl 14 (by decide) (hts _ w_825) (fun _ h9 => h9) rfl dX10_number_135 ?_
        refine lv_iload_n hx hb dX10_number_138 rfl (lv_at hl 2 rfl) ?_
        refine va_lald (f := (zm_value M4 t (nI kk) j).2.2) hx hb hK hP 12 2 rfl rfl ht dX10_number_139 ?_
        refine lv_aload_n hx hb dX10_number_140 rfl (lv_at hl 0 rfl) ?_
        refine va_get (ci := 9) (v := .int ((zm_value M4 t (nI kk) j).1 22)) hx hb hts iX10 hown hK hP 0 rfl rfl 22 (by decide) (hts _ w_833) (fun _ h9 => h9) rfl dX10_number_141 ?_
        refine lv_i2l (v := ((zm_value M4 t (nI kk) j).1 22).toInt64) hx hb dX10_number_144 rfl ?_
        refine lv_lmul hx hb dX10_number_145 ?_
        refine lv_aload_n hx hb dX10_number_146 rfl (lv_at hl 0 rfl) ?_
        refine va_get (ci := 9) (v := .ref (ad 16)) hx hb hts iX10 hown hK hP 0 rfl rfl 16 (by decide) (hts _ w_827) (fun _ h9 => h9) rfl dX10_number_147 ?_
        refine lv_iload_n hx hb dX10_number_150 rfl (lv_at hl 3 rfl) ?_
        refine va_bald (f := (zm_value M4 t (nI kk) j).2.1 16) hx hb hK hP 13 0 rfl rfl (vp_in_nI (by omega) (by omega)) dX10_number_151 ?_
        refine za_ci (wc := []) (wr := zm_ws g h ad (zm_value M4 t (nI kk) j)) C hP hD hS [] [0, 1, 2, 3, 4, 5, 6, 7, 8, 9, 10, 11, 12, 13, 14, 15, 16, 17] rfl rfl (by decide) (by decide) (za_runS C hP hD hS [] rfl (by decide) rfl (kX10_worth l g E  ((zm_value M4 t (nI kk) j).2.1 16 (nI (kk + j)).toNatClampNeg) ) w_1039 mX10_worth rfl hl.1 rfl (Nat.le_of_ble_eq_true rfl) dX10_number_152 ⟨by decide, by decide⟩ ⟨by decide, by decide⟩) (fun r1 _ H locs hr1 hP hD hS => ?_)
        have hP : va_P g.1 vwCl (zm_ws g h ad (zm_value M4 t (nI kk) j)) H := hP
        have hD : va_D A (zm_ws g h ad (zm_value M4 t (nI kk) j)) := hD
        refine lv_i2l (v := r1.toInt64) hx hb dX10_number_155 rfl ?_
        refine lv_ladd hx hb dX10_number_156 ?_
        refine va_last (f := (zm_value M4 t (nI kk) j).2.2) hx hb hK hP hD hS 12 2 rfl rfl ht dX10_number_157 (fun H locs hP hD hS => ?_)
        have hP : va_P g.1 vwCl (zm_ws g h ad (zm_v (zm_value M4 t (nI kk) j) t ((((zm_value M4 t (nI kk) j).2.2 t.toNatClampNeg) * (((zm_value M4 t (nI kk) j).1 22).toInt64)) + r1.toInt64))) H := hP
        have hD : va_D A (zm_ws g h ad (zm_v (zm_value M4 t (nI kk) j) t ((((zm_value M4 t (nI kk) j).2.2 t.toNatClampNeg) * (((zm_value M4 t (nI kk) j).1 22).toInt64)) + r1.toInt64))) := hD
        refine lv_iinc (v := nI (kk + (j + 1))) (lv' := [(3, .int (nI (kk + (j + 1)))), (0, .ref h), (1, .int q), (2, .int t)]) hx hb dX10_number_158 hl (k := 3) rfl (nI_1 _) (by decide) rfl (fun ls hl => ?_)
        refine lv_goto (tgt := 117) hx hb dX10_number_161 (by decide) ?_
        subst hr1
        rw [← nI_add kk j] at hP hD
        have hP : va_P g.1 vwCl (zm_ws g h ad (zm_value M4 t (nI kk) (j + 1))) H := hP
        have hD : va_D A (zm_ws g h ad (zm_value M4 t (nI kk) (j + 1))) := hD
        exact ih (j + 1) (Or.inr (by omega)) (fun h9 => absurd h9 c_126) (by omega) H locs ls hS hP hD (lv_sub hl [1, 2, 3, 0] rfl)
theorem z_clamp {P k : Nat} (hP : P < 2 ^ 30) (hk : k < 2 ^ 30) : (nI P - nI k).toNatClampNeg = P - k := by
  rcases Nat.lt_or_ge P k with q | q
  · have h := pk_sneg (a := P) (b := k) hk q
    rw [show P - k = 0 by omega]
    rw [Int32.lt_iff_toInt_lt] at h
    unfold Int32.toNatClampNeg
    have e0 : (0 : Int32).toInt = 0 := rfl
    omega
  · rw [pk_sub q]
    exact nI_clamp (by omega)
set_option maxHeartbeats 4000000 in
set_option maxRecDepth 100000 in
theorem kL_numK (l : Launch) (g : za_G) (E : za_E) (h : Nat) (ad : Nat → Nat) (M : zm_M) (q : Int32) (M2 : zm_M) (t : Int32) (a b u : Nat) (ht : vp_in t 16384) (h27 : M2.1 27 = nI a) (h23 : M2.1 23 = nI b) (h15 : M2.1 15 = nI u) (h12 : M2.2.1 12 t.toNatClampNeg = nI u) (hba : b ≤ a) (ha : a ≤ 60000) (hub : u ≤ b) (hfin : zm_number M q = let M3 := zm_keepN M2 (fun i => zr_byteAt M2 (M2.1 23 + nI i)) (a - b); let M4 := zm_a M3 13 t (M3.1 15 - M3.2.1 12 t.toNatClampNeg); if q = 0 then M4 else zm_value M4 t (zr_digitsFrom M4 t) (M4.1 15 - zr_digitsFrom M4 t).toNatClampNeg) {p : Program} {e : Env} {s : State} {m : MethodId} {args : Array Value} {below : List Frame} {meth : Method} {co : Code} {A : Nat → Prop} {Q : State → Prop} (C : za_H p s m args co cX10_number 4 RX10 g E A) (hQ : Q = MQ below (za_qv g (fun u : zm_M => u = zm_number M q) (fun u => zm_ws g h ad u) A) args s 0 0 A) (hr : meth.sig.returnType = none) (hlocks : meth.locks = false)  : ∀ (n_ : Nat) (j : Nat), (b + j ≤ a) → a - (b + j) < n_ → ∀ (H : Heap) (locs : List Loc) (ls : Array Slot), va_S A s.heap H locs → va_P g.1 vwCl (zm_ws g h ad (zm_keepN M2 (fun i => zr_byteAt M2 (M2.1 23 + nI i)) j)) H → va_D A (zm_ws g h ad (zm_keepN M2 (fun i => zr_byteAt M2 (M2.1 23 + nI i)) j)) → lv_has ls 4 [(0, .ref h), (1, .int q), (2, .int t), (3, .int (nI (b + j)))] → W p l e (za_R 4 0 0) s m args below meth co H locs 0 0 Q (F0 m 61 ls []) := by
  obtain ⟨hx, hb, hml, hown, hts, hK, hA, hE⟩ := id C
  intro n_
  induction n_ with
  | zero => intro j hj hm; exact absurd hm (Nat.not_lt_zero _)
  | succ n_ ih =>
    intro j hj hm H locs ls hS hP hD hl
    refine lv_iload_n hx hb dX10_number_61 rfl (lv_at hl 3 rfl) ?_
    refine lv_aload_n hx hb dX10_number_62 rfl (lv_at hl 0 rfl) ?_
    refine va_get (ci := 9) (v := .int ((zm_keepN M2 (fun i => zr_byteAt M2 (M2.1 23 + nI i)) j).1 27)) hx hb hts iX10 hown hK hP 0 rfl rfl 27 (by decide) (hts _ w_838) (fun _ h9 => h9) rfl dX10_number_63 ?_
    refine za_icmp_ge (tgt := 94) hx hb dX10_number_66 (by decide) (fun c_66 => ?_) (fun c_66 => ?_)
    · have hje : j = a - b := by
        rw [zm_keepN_f M2 (fun i => zr_byteAt M2 (M2.1 23 + nI i)) (by decide) j, h27] at c_66
        rcases Nat.lt_or_ge (b + j) a with h9 | h9
        · exact absurd (nI_lt h9 (by omega)) c_66
        · omega
      refine lv_aload_n hx hb dX10_number_94 rfl (lv_at hl 0 rfl) ?_
      refine va_get (ci := 9) (v := .ref (ad 13)) hx hb hts iX10 hown hK hP 0 rfl rfl 13 (by decide) (hts _ w_824) (fun _ h9 => h9) rfl dX10_number_95 ?_
      refine lv_iload_n hx hb dX10_number_98 rfl (lv_at hl 2 rfl) ?_
      refine lv_aload_n hx hb dX10_number_99 rfl (lv_at hl 0 rfl) ?_
      refine va_get (ci := 9) (v := .int ((zm_keepN M2 (fun i => zr_byteAt M2 (M2.1 23 + nI i)) j).1 15)) hx hb hts iX10 hown hK hP 0 rfl rfl 15 (by decide) (hts _ w_826) (fun _ h9 => h9) rfl dX10_number_100 ?_
      refine lv_aload_n hx hb dX10_number_103 rfl (lv_at hl 0 rfl) ?_
      refine va_get (ci := 9) (v := .ref (ad 12)) hx hb hts iX10 hown hK hP 0 rfl rfl 12 (by decide) (hts _ w_823) (fun _ h9 => h9) rfl dX10_number_104 ?_
      refine lv_iload_n hx hb dX10_number_107 rfl (lv_at hl 2 rfl) ?_
      refine va_iald (f := (zm_keepN M2 (fun i => zr_byteAt M2 (M2.1 23 + nI i)) j).2.1 12) hx hb hK hP 10 1 rfl rfl ht dX10_number_108 ?_
      refine lv_isub hx hb dX10_number_109 ?_
      refine va_iast (f := (zm_keepN M2 (fun i => zr_byteAt M2 (M2.1 23 + nI i)) j).2.1 13) hx hb hK hP hD hS 11 1 rfl rfl ht dX10_number_110 (fun H locs hP hD hS => ?_)
      have hP : va_P g.1 vwCl (zm_ws g h ad (zm_a (zm_keepN M2 (fun i => zr_byteAt M2 (M2.1 23 + nI i)) j) 13 t (((zm_keepN M2 (fun i => zr_byteAt M2 (M2.1 23 + nI i)) j).1 15) - ((zm_keepN M2 (fun i => zr_byteAt M2 (M2.1 23 + nI i)) j).2.1 12 t.toNatClampNeg)))) H := hP
      have hD : va_D A (zm_ws g h ad (zm_a (zm_keepN M2 (fun i => zr_byteAt M2 (M2.1 23 + nI i)) j) 13 t (((zm_keepN M2 (fun i => zr_byteAt M2 (M2.1 23 + nI i)) j).1 15) - ((zm_keepN M2 (fun i => zr_byteAt M2 (M2.1 23 + nI i)) j).2.1 12 t.toNatClampNeg)))) := hD
      refine lv_aload_n hx hb dX10_number_111 rfl (lv_at hl 0 rfl) ?_
      refine lv_iload_n hx hb dX10_number_112 rfl (lv_at hl 2 rfl) ?_
      refine za_ci (wc := zm_ws g h ad (zm_a (zm_keepN M2 (fun i => zr_byteAt M2 (M2.1 23 + nI i)) j) 13 t (((zm_keepN M2 (fun i => zr_byteAt M2 (M2.1 23 + nI i)) j).1 15) - ((zm_keepN M2 (fun i => zr_byteAt M2 (M2.1 23 + nI i)) j).2.1 12 t.toNatClampNeg)))) (wr := []) C hP hD hS [0, 1, 2, 3, 4, 5, 6, 7, 8, 9, 10, 11, 12, 13, 14, 15, 16, 17] [] rfl rfl (by decide) (by decide) (za_runV C hP hD hS [0, 1, 2, 3, 4, 5, 6, 7, 8, 9, 10, 11, 12, 13, 14, 15, 16, 17] rfl (by decide) rfl (kX10_digitsFrom l g E h ad (zm_a (zm_keepN M2 (fun i => zr_byteAt M2 (M2.1 23 + nI i)) j) 13 t (((zm_keepN M2 (fun i => zr_byteAt M2 (M2.1 23 + nI i)) j).1 15) - ((zm_keepN M2 (fun i => zr_byteAt M2 (M2.1 23 + nI i)) j).2.1 12 t.toNatClampNeg))) t ht (by show vp_in ((zm_keepN M2 (fun i => zr_byteAt M2 (M2.1 23 + nI i)) j).2.1 12 t.toNatClampNeg + 1) 65536; rw [zm_keepN_a M2 (fun i => zr_byteAt M2 (M2.1 23 + nI i)) (by decide) j, h12, nI_1]; exact vp_in_nI (by omega) (by omega))) w_1050 mX10_digitsFrom 0 rfl rfl rfl rfl hl.1 rfl (Nat.le_of_ble_eq_true rfl) dX10_number_113 ⟨by decide, by decide⟩ ⟨by decide, by decide⟩) (fun r1 _ H locs hr1 hP hD hS => ?_)
      have hP : va_P g.1 vwCl (zm_ws g h ad (zm_a (zm_keepN M2 (fun i => zr_byteAt M2 (M2.1 23 + nI i)) j) 13 t (((zm_keepN M2 (fun i => zr_byteAt M2 (M2.1 23 + nI i)) j).1 15) - ((zm_keepN M2 (fun i => zr_byteAt M2 (M2.1 23 + nI i)) j).2.1 12 t.toNatClampNeg)))) H := hP
      have hD : va_D A (zm_ws g h ad (zm_a (zm_keepN M2 (fun i => zr_byteAt M2 (M2.1 23 + nI i)) j) 13 t (((zm_keepN M2 (fun i => zr_byteAt M2 (M2.1 23 + nI i)) j).1 15) - ((zm_keepN M2 (fun i => zr_byteAt M2 (M2.1 23 + nI i)) j).2.1 12 t.toNatClampNeg)))) := hD
      refine lv_istore_n (lv' := [(3, .int r1), (0, .ref h), (1, .int q), (2, .int t)]) hx hb dX10_number_116 rfl hl (by decide) rfl (fun ls hl => ?_)
      obtain ⟨P9, hp1, hp2, hp3⟩ := zm_keepN_15 M2 (fun i => zr_byteAt M2 (M2.1 23 + nI i)) h15 j
      have hkk : ∃ kk : Nat, zr_digitsFrom (zm_a (zm_keepN M2 (fun i => zr_byteAt M2 (M2.1 23 + nI i)) j) 13 t (((zm_keepN M2 (fun i => zr_byteAt M2 (M2.1 23 + nI i)) j).1 15) - ((zm_keepN M2 (fun i => zr_byteAt M2 (M2.1 23 + nI i)) j).2.1 12 t.toNatClampNeg))) t = nI kk ∧ kk ≤ u + 2 := by
        have e6 : (zm_a (zm_keepN M2 (fun i => zr_byteAt M2 (M2.1 23 + nI i)) j) 13 t (((zm_keepN M2 (fun i => zr_byteAt M2 (M2.1 23 + nI i)) j).1 15) - ((zm_keepN M2 (fun i => zr_byteAt M2 (M2.1 23 + nI i)) j).2.1 12 t.toNatClampNeg))).2.1 12 t.toNatClampNeg = nI u := by
          show (zm_keepN M2 (fun i => zr_byteAt M2 (M2.1 23 + nI i)) j).2.1 12 t.toNatClampNeg = nI u
          rw [zm_keepN_a M2 (fun i => zr_byteAt M2 (M2.1 23 + nI i)) (by decide) j]
          exact h12
        unfold zr_digitsFrom
        rw [e6]
        split
        · exact ⟨u + 2, nI_add u 2, by omega⟩
        · exact ⟨u, rfl, by omega⟩
      obtain ⟨kk, hk1, hk2⟩ := hkk
      have hl : lv_has ls 4 [(3, .int (nI (kk + 0))), (0, .ref h), (1, .int q), (2, .int t)] := by rw [hr1, hk1] at hl; exact hl
      have hf9 : zm_number M q = if q = 0 then (zm_a (zm_keepN M2 (fun i => zr_byteAt M2 (M2.1 23 + nI i)) j) 13 t (((zm_keepN M2 (fun i => zr_byteAt M2 (M2.1 23 + nI i)) j).1 15) - ((zm_keepN M2 (fun i => zr_byteAt M2 (M2.1 23 + nI i)) j).2.1 12 t.toNatClampNeg))) else zm_value (zm_a (zm_keepN M2 (fun i => zr_byteAt M2 (M2.1 23 + nI i)) j) 13 t (((zm_keepN M2 (fun i => zr_byteAt M2 (M2.1 23 + nI i)) j).1 15) - ((zm_keepN M2 (fun i => zr_byteAt M2 (M2.1 23 + nI i)) j).2.1 12 t.toNatClampNeg))) t (nI kk) (P9 - kk) := by
        rw [hfin, ← hje]
        dsimp only
        rw [hk1, show (zm_a (zm_keepN M2 (fun i => zr_byteAt M2 (M2.1 23 + nI i)) j) 13 t ((zm_keepN M2 (fun i => zr_byteAt M2 (M2.1 23 + nI i)) j).1 15 - (zm_keepN M2 (fun i => zr_byteAt M2 (M2.1 23 + nI i)) j).2.1 12 t.toNatClampNeg)).1 15 = nI P9 from hp1]
        rw [z_clamp (by omega) (by omega)]
      exact kL_numV l g E h ad M q (zm_a (zm_keepN M2 (fun i => zr_byteAt M2 (M2.1 23 + nI i)) j) 13 t (((zm_keepN M2 (fun i => zr_byteAt M2 (M2.1 23 + nI i)) j).1 15) - ((zm_keepN M2 (fun i => zr_byteAt M2 (M2.1 23 + nI i)) j).2.1 12 t.toNatClampNeg))) t kk P9 ht hp1 (by omega) (by omega) hf9 C hQ hr hlocks _ 0 (Or.inl rfl) (fun _ => rfl) (Nat.lt_succ_self _) H locs ls hS hP hD (lv_sub hl [1, 2, 3, 0] rfl)
    · have hlt : b + j < a := by
        rw [zm_keepN_f M2 (fun i => zr_byteAt M2 (M2.1 23 + nI i)) (by decide) j, h27] at c_66
        exact (nI_ltI (by omega) (by omega)).mp c_66
      have e7 : zr_byteAt (zm_keepN M2 (fun i => zr_byteAt M2 (M2.1 23 + nI i)) j) (nI (b + j)) = zr_byteAt M2 (M2.1 23 + nI j) := by
        rw [zr_byteAt_1 (zm_keepN_a M2 (fun i => zr_byteAt M2 (M2.1 23 + nI i)) (by decide) j), h23, nI_add]
      refine lv_aload_n hx hb dX10_number_69 rfl (lv_at hl 0 rfl) ?_
      refine lv_iload_n hx hb dX10_number_70 rfl (lv_at hl 3 rfl) ?_
      refine za_ci (wc := zm_ws g h ad (zm_keepN M2 (fun i => zr_byteAt M2 (M2.1 23 + nI i)) j)) (wr := []) C hP hD hS [0, 1, 2, 3, 4, 5, 6, 7, 8, 9, 10, 11, 12, 13, 14, 15, 16, 17] [] rfl rfl (by decide) (by decide) (za_runV C hP hD hS [0, 1, 2, 3, 4, 5, 6, 7, 8, 9, 10, 11, 12, 13, 14, 15, 16, 17] rfl (by decide) rfl (kX10_byteAt l g E h ad (zm_keepN M2 (fun i => zr_byteAt M2 (M2.1 23 + nI i)) j) (nI (b + j)) (vp_in_nI (by omega) (by omega))) w_965 mX10_byteAt 0 rfl rfl rfl rfl hl.1 rfl (Nat.le_of_ble_eq_true rfl) dX10_number_71 ⟨by decide, by decide⟩ ⟨by decide, by decide⟩) (fun r2 _ H locs hr2 hP hD hS => ?_)
      subst hr2
      have hP : va_P g.1 vwCl (zm_ws g h ad (zm_keepN M2 (fun i => zr_byteAt M2 (M2.1 23 + nI i)) j)) H := hP
      have hD : va_D A (zm_ws g h ad (zm_keepN M2 (fun i => zr_byteAt M2 (M2.1 23 + nI i)) j)) := hD
      refine lv_bipush (v := 95) hx hb dX10_number_74 (by decide) ?_
      refine lv_icmp_eq (tgt := 88) hx hb dX10_number_76 (by decide) (fun c_76 => ?_) (fun c_76 => ?_)
      · refine lv_iinc (v := nI (b + (j + 1))) (lv' := [(3, .int (nI (b + (j + 1)))), (0, .ref h), (1, .int q), (2, .int t)]) hx hb dX10_number_88 hl (k := 3) rfl (nI_1 _) (by decide) rfl (fun ls hl => ?_)
        refine lv_goto (tgt := 61) hx hb dX10_number_91 (by decide) ?_
        have e8 : zm_keepN M2 (fun i => zr_byteAt M2 (M2.1 23 + nI i)) (j + 1) = zm_keepN M2 (fun i => zr_byteAt M2 (M2.1 23 + nI i)) j := by
          show (if zr_byteAt M2 (M2.1 23 + nI j) = 95 then _ else _) = _
          rw [if_pos (by rw [← e7]; exact c_76)]
        rw [← e8] at hP hD
        exact ih (j + 1) (by omega) (by omega) H locs ls hS hP hD (lv_sub hl [1, 2, 3, 0] rfl)
      · refine lv_aload_n hx hb dX10_number_79 rfl (lv_at hl 0 rfl) ?_
        refine lv_aload_n hx hb dX10_number_80 rfl (lv_at hl 0 rfl) ?_
        refine lv_iload_n hx hb dX10_number_81 rfl (lv_at hl 3 rfl) ?_
        refine za_ci (wc := zm_ws g h ad (zm_keepN M2 (fun i => zr_byteAt M2 (M2.1 23 + nI i)) j)) (wr := []) C hP hD hS [0, 1, 2, 3, 4, 5, 6, 7, 8, 9, 10, 11, 12, 13, 14, 15, 16, 17] [] rfl rfl (by decide) (by decide) (za_runV C hP hD hS [0, 1, 2, 3, 4, 5, 6, 7, 8, 9, 10, 11, 12, 13, 14, 15, 16, 17] rfl (by decide) rfl (kX10_byteAt l g E h ad (zm_keepN M2 (fun i => zr_byteAt M2 (M2.1 23 + nI i)) j) (nI (b + j)) (vp_in_nI (by omega) (by omega))) w_965 mX10_byteAt 0 rfl rfl rfl rfl hl.1 rfl (Nat.le_of_ble_eq_true rfl) dX10_number_82 ⟨by decide, by decide⟩ ⟨by decide, by decide⟩) (fun r3 _ H locs hr3 hP hD hS => ?_)
        subst hr3
        have hP : va_P g.1 vwCl (zm_ws g h ad (zm_keepN M2 (fun i => zr_byteAt M2 (M2.1 23 + nI i)) j)) H := hP
        have hD : va_D A (zm_ws g h ad (zm_keepN M2 (fun i => zr_byteAt M2 (M2.1 23 + nI i)) j)) := hD
        refine za_cv (wc := zm_ws g h ad (zm_keepN M2 (fun i => zr_byteAt M2 (M2.1 23 + nI i)) j)) (wr := []) C hP hD hS [0, 1, 2, 3, 4, 5, 6, 7, 8, 9, 10, 11, 12, 13, 14, 15, 16, 17] [] rfl rfl (by decide) (by decide) (za_runV C hP hD hS [0, 1, 2, 3, 4, 5, 6, 7, 8, 9, 10, 11, 12, 13, 14, 15, 16, 17] rfl (by decide) rfl (kX10_keep l g E h ad (zm_keepN M2 (fun i => zr_byteAt M2 (M2.1 23 + nI i)) j) (zr_byteAt (zm_keepN M2 (fun i => zr_byteAt M2 (M2.1 23 + nI i)) j) (nI (b + j))) (by obtain ⟨v9, g1, g2, g3⟩ := zm_keepN_15 M2 (fun i => zr_byteAt M2 (M2.1 23 + nI i)) h15 j; rw [g1]; exact vp_in_nI (by omega) (by omega))) w_1027 mX10_keep 0 rfl rfl rfl rfl hl.1 rfl (Nat.le_of_ble_eq_true rfl) dX10_number_85 ⟨by decide, by decide⟩ ⟨by decide, by decide⟩) (fun M4 H locs hM4 hP hD hS => ?_)
        have hP : va_P g.1 vwCl (zm_ws g h ad M4) H := hP
        have hD : va_D A (zm_ws g h ad M4) := hD
        refine lv_iinc (v := nI (b + (j + 1))) (lv' := [(3, .int (nI (b + (j + 1)))), (0, .ref h), (1, .int q), (2, .int t)]) hx hb dX10_number_88 hl (k := 3) rfl (nI_1 _) (by decide) rfl (fun ls hl => ?_)
        refine lv_goto (tgt := 61) hx hb dX10_number_91 (by decide) ?_
        have e8 : zm_keepN M2 (fun i => zr_byteAt M2 (M2.1 23 + nI i)) (j + 1) = M4 := by
          rw [hM4]
          show (if zr_byteAt M2 (M2.1 23 + nI j) = 95 then _ else _) = _
          rw [if_neg (by rw [← e7]; exact c_76), e7]
        rw [← e8] at hP hD
        exact ih (j + 1) (by omega) (by omega) H locs ls hS hP hD (lv_sub hl [1, 2, 3, 0] rfl)
theorem zm_token_f (M : zm_M) (k n q : Int32) {j : Nat} (h3 : j ≠ 3) (h30 : j ≠ 30) : (zm_token M k n q).1 j = M.1 j := by
  have hr : ∀ q : Int32, (zm_room M q).1 j = M.1 j := by
    intro q
    unfold zm_room
    split
    · rfl
    · split
      · show upd M.1 30 q j = M.1 j
        rw [zq_upd, if_neg h30]
      · rfl
  unfold zm_token
  dsimp only
  split
  · exact hr _
  · show upd (zm_room M (M.1 23)).1 3 _ j = M.1 j
    rw [zq_upd, if_neg h3]
    exact hr _
theorem zm_token_pos {M : zm_M} {k n q : Int32} (hT : zm_T M) (hs : ¬ M.1 23 < 0) (h : (zm_token M k n q).1 30 < 0) : vp_in ((zm_token M k n q).1 3 - 1) 16384 := by
  have hT2 := zm_T_token (k := k) (n := n) (q := q) hT
  refine z_sub1 hT2.1 hT2.2 ?_
  unfold zm_token at h ⊢
  dsimp only at h ⊢
  split at h
  · rename_i hr
    exfalso
    unfold zr_room at hr
    unfold zm_room at h
    split at hr
    · exact absurd hr (by decide)
    · rename_i h9
      rw [if_neg h9] at h
      split at h
      · exact hs h
      · rename_i h8
        exact h8 (Or.inl h)
  · rename_i hr
    rw [if_neg hr]
    show ¬ ((zm_room M (M.1 23)).1 3 + 1) = 0
    rw [zm_room_3]
    intro h9
    have h8 := (z_add1 hT.1 (zr_room_lt hr)).1
    have h7 : (M.1 3 + 1).toInt = 0 := by rw [h9]; rfl
    rw [Int32.toInt_add] at h7
    have e1 : (1 : Int32).toInt = 1 := rfl
    have h6 := hT.1
    have h5 := zr_room_lt hr
    rw [Int32.lt_iff_toInt_lt] at h6 h5
    have e0 : (0 : Int32).toInt = 0 := rfl
    have e2 : (16384 : Int32).toInt = 16384 := rfl
    rw [e0] at h6
    rw [e2] at h5
    rw [e1, Int.bmod_eq_of_le (by omega) (by omega)] at h7
    omega
theorem zm_token_room {M : zm_M} {k n q : Int32} (hs : ¬ M.1 23 < 0) (h : (zm_token M k n q).1 30 < 0) : ¬ zr_room M = 0 := by
  intro hr
  unfold zm_token at h
  dsimp only at h
  rw [if_pos hr] at h
  unfold zr_room at hr
  unfold zm_room at h
  split at hr
  · exact absurd hr (by decide)
  · rename_i h9
    rw [if_neg h9] at h
    split at h
    · exact hs h
    · rename_i h8
      exact h8 (Or.inl h)
theorem zm_room_same {M : zm_M} {q : Int32} (h : ¬ zr_room M = 0) : zm_room M q = M := by
  unfold zm_room
  rw [if_pos (zr_room_lt h)]
/-- what a token that found room is -/
theorem zm_token_ok {M : zm_M} {k n q : Int32} (h : ¬ zr_room M = 0) : zm_token M k n q = zm_s (zm_v (zm_a (zm_a (zm_a (zm_a (zm_a (zm_a (zm_a (zm_a (zm_a (zm_a M 4 (M.1 3) k) 5 (M.1 3) (M.1 23)) 6 (M.1 3) (M.1 24)) 7 (M.1 3) (M.1 25)) 8 (M.1 3) n) 9 (M.1 3) (vp_nar .boolean q)) 10 (M.1 3) (-1)) 11 (M.1 3) 0) 12 (M.1 3) (M.1 15)) 13 (M.1 3) 0) (M.1 3) 0) 3 (M.1 3 + 1) := by
  unfold zm_token
  dsimp only
  rw [if_neg h, zm_room_same h]
theorem z_back (x : Int32) : x + 1 - 1 = x := Int32.add_sub_cancel x 1
theorem zm_token_12 {M : zm_M} {k n q : Int32} (hs : ¬ M.1 23 < 0) (h : (zm_token M k n q).1 30 < 0) : (zm_token M k n q).2.1 12 ((zm_token M k n q).1 3 - 1).toNatClampNeg = M.1 15 := by
  rw [zm_token_ok (zm_token_room hs h)]
  show upd (M.2.1 12) (M.1 3).toNatClampNeg (M.1 15) ((M.1 3 + 1) - 1).toNatClampNeg = M.1 15
  rw [z_back, zq_upd, if_pos rfl]
set_option maxHeartbeats 4000000 in
set_option maxRecDepth 100000 in
theorem kX10_number (l : Launch) (g : za_G) (E : za_E) (h : Nat) (ad : Nat → Nat) (M : zm_M) (q : Int32) (hT : zm_T M) (hB : zm_B M) : za_Cv l g E yX10_number cX10_number 4 4 0 0 [.ref h, .int q] (zm_ws g h ad M) (fun u : zm_M => u = zm_number M q) (fun u => zm_ws g h ad u) := by
  refine za_begin (by decide) (Nat.le_of_ble_eq_true rfl) RX10 rfl ?_
  intro p e s m args below meth co A ls Q H locs C hQ hr hlocks hnm hS hP hD hl
  obtain ⟨hx, hb, hml, hown, hts, hK, hA, hE⟩ := id C
  have hl : lv_has ls 4 [(0, .ref h), (1, .int q)] := hl
  refine lv_aload_n hx hb dX10_number_0 rfl (lv_at hl 0 rfl) ?_
  have J_10 : ∀ v9 : Int32, v9 = (zr_nk q) → W p l e (za_R 4 0 0) s m args below meth co H locs 0 0 Q (F0 m 10 ls (.int v9 :: [.ref h])) := by
    intro v_10 hv_10
    refine lv_aload_n hx hb dX10_number_10 rfl (lv_at hl 0 rfl) ?_
    refine va_get (ci := 9) (v := .int (M.1 27)) hx hb hts iX10 hown hK hP 0 rfl rfl 27 (by decide) (hts _ w_838) (fun _ h9 => h9) rfl dX10_number_11 ?_
    refine lv_aload_n hx hb dX10_number_14 rfl (lv_at hl 0 rfl) ?_
    refine va_get (ci := 9) (v := .int (M.1 23)) hx hb hts iX10 hown hK hP 0 rfl rfl 23 (by decide) (hts _ w_834) (fun _ h9 => h9) rfl dX10_number_15 ?_
    refine lv_isub hx hb dX10_number_18 ?_
    refine lv_iconst (v := 0) hx hb dX10_number_19 (by decide) ?_
    refine za_cv (wc := zm_ws g h ad M) (wr := []) C hP hD hS [0, 1, 2, 3, 4, 5, 6, 7, 8, 9, 10, 11, 12, 13, 14, 15, 16, 17] [] rfl rfl (by decide) (by decide) (za_runV C hP hD hS [0, 1, 2, 3, 4, 5, 6, 7, 8, 9, 10, 11, 12, 13, 14, 15, 16, 17] rfl (by decide) rfl (kX10_token l g E h ad M v_10 ((M.1 27) - (M.1 23)) 0 hT) w_985 mX10_token 0 rfl rfl rfl rfl hl.1 rfl (Nat.le_of_ble_eq_true rfl) dX10_number_20 ⟨by decide, by decide⟩ ⟨by decide, by decide⟩) (fun M1 H locs hM1 hP hD hS => ?_)
    have hP : va_P g.1 vwCl (zm_ws g h ad M1) H := hP
    have hD : va_D A (zm_ws g h ad M1) := hD
    refine lv_aload_n hx hb dX10_number_23 rfl (lv_at hl 0 rfl) ?_
    refine va_get (ci := 9) (v := .int (M1.1 30)) hx hb hts iX10 hown hK hP 0 rfl rfl 30 (by decide) (hts _ w_841) (fun _ h9 => h9) rfl dX10_number_24 ?_
    refine lv_if_lt (tgt := 31) hx hb dX10_number_27 (by decide) (fun c_27 => ?_) (fun c_27 => ?_)
    · have hti : vp_in (M1.1 3 - 1) 16384 := by
        obtain ⟨a, b, u, g27, g23, g15, hba, ha, hub⟩ := hB
        have hs9 : ¬ M.1 23 < 0 := by rw [g23]; exact nI_pos (by omega)
        rw [hM1] at c_27 ⊢
        exact zm_token_pos hT hs9 c_27
      refine lv_aload_n hx hb dX10_number_31 rfl (lv_at hl 0 rfl) ?_
      refine va_get (ci := 9) (v := .int (M1.1 3)) hx hb hts iX10 hown hK hP 0 rfl rfl 3 (by decide) (hts _ w_814) (fun _ h9 => h9) rfl dX10_number_32 ?_
      refine lv_iconst (v := 1) hx hb dX10_number_35 (by decide) ?_
      refine lv_isub hx hb dX10_number_36 ?_
      refine lv_istore_n (lv' := [(2, .int ((M1.1 3) - 1)), (0, .ref h), (1, .int q)]) hx hb dX10_number_37 rfl hl (by decide) rfl (fun ls hl => ?_)
      refine lv_aload_n hx hb dX10_number_38 rfl (lv_at hl 1 rfl) ?_
      refine va_get (ci := 9) (v := .ref (ad 11)) hx hb hts iX10 hown hK hP 0 rfl rfl 11 (by decide) (hts _ w_822) (fun _ h9 => h9) rfl dX10_number_39 ?_
      refine lv_iload_n hx hb dX10_number_42 rfl (lv_at hl 0 rfl) ?_
      have J_55 : ∀ v9 : Int32, v9 = (zr_nb q (M1.1 22)) → W p l e (za_R 4 0 0) s m args below meth co H locs 0 0 Q (F0 m 55 ls (.int v9 :: [.int ((M1.1 3) - 1), .ref (ad 11)])) := by
        intro v_55 hv_55
        refine va_iast (f := M1.2.1 11) hx hb hK hP hD hS 9 1 rfl rfl hti dX10_number_55 (fun H locs hP hD hS => ?_)
        have hP : va_P g.1 vwCl (zm_ws g h ad (zm_a M1 11 ((M1.1 3) - 1) v_55)) H := hP
        have hD : va_D A (zm_ws g h ad (zm_a M1 11 ((M1.1 3) - 1) v_55)) := hD
        refine lv_aload_n hx hb dX10_number_56 rfl (lv_at hl 1 rfl) ?_
        refine va_get (ci := 9) (v := .int (M1.1 23)) hx hb hts iX10 hown hK hP 0 rfl rfl 23 (by decide) (hts _ w_834) (fun _ h9 => h9) rfl dX10_number_57 ?_
        refine lv_istore_n (lv' := [(3, .int (M1.1 23)), (2, .int ((M1.1 3) - 1)), (0, .ref h), (1, .int q)]) hx hb dX10_number_60 rfl hl (by decide) rfl (fun ls hl => ?_)
        obtain ⟨a, b, u, g27, g23, g15, hba, ha, hub⟩ := hB
        have hs9 : ¬ M.1 23 < 0 := by rw [g23]; exact nI_pos (by omega)
        have hw9 : (zm_token M v_10 (M.1 27 - M.1 23) 0).1 30 < 0 := by rw [← hM1]; exact c_27
        have h27 : (zm_a M1 11 ((M1.1 3) - 1) v_55).1 27 = nI a := by
          show M1.1 27 = nI a
          rw [hM1, zm_token_f M _ _ _ (by decide) (by decide)]; exact g27
        have h23 : (zm_a M1 11 ((M1.1 3) - 1) v_55).1 23 = nI b := by
          show M1.1 23 = nI b
          rw [hM1, zm_token_f M _ _ _ (by decide) (by decide)]; exact g23
        have h15 : (zm_a M1 11 ((M1.1 3) - 1) v_55).1 15 = nI u := by
          show M1.1 15 = nI u
          rw [hM1, zm_token_f M _ _ _ (by decide) (by decide)]; exact g15
        have h12 : (zm_a M1 11 ((M1.1 3) - 1) v_55).2.1 12 (M1.1 3 - 1).toNatClampNeg = nI u := by
          show M1.2.1 12 (M1.1 3 - 1).toNatClampNeg = nI u
          rw [hM1, zm_token_12 hs9 hw9]; exact g15
        have hf9 : zm_number M q = let M3 := zm_keepN (zm_a M1 11 ((M1.1 3) - 1) v_55) (fun i => zr_byteAt (zm_a M1 11 ((M1.1 3) - 1) v_55) ((zm_a M1 11 ((M1.1 3) - 1) v_55).1 23 + nI i)) (a - b); let M4 := zm_a M3 13 (M1.1 3 - 1) (M3.1 15 - M3.2.1 12 (M1.1 3 - 1).toNatClampNeg); if q = 0 then M4 else zm_value M4 (M1.1 3 - 1) (zr_digitsFrom M4 (M1.1 3 - 1)) (M4.1 15 - zr_digitsFrom M4 (M1.1 3 - 1)).toNatClampNeg := by
          have e6 : ((zm_a M1 11 ((M1.1 3) - 1) v_55).1 27 - (zm_a M1 11 ((M1.1 3) - 1) v_55).1 23).toNatClampNeg = a - b := by rw [h27, h23]; exact z_clamp (by omega) (by omega)
          rw [← e6]
          unfold zm_number
          dsimp only
          rw [← hv_10, ← hM1, if_neg (fun h9 => h9 c_27), ← hv_55]
        have hl : lv_has ls 4 [(3, .int (nI (b + 0))), (2, .int ((M1.1 3) - 1)), (0, .ref h), (1, .int q)] := by rw [show M1.1 23 = nI b from h23] at hl; exact hl
        exact kL_numK l g E h ad M q (zm_a M1 11 ((M1.1 3) - 1) v_55) (M1.1 3 - 1) a b u hti h27 h23 h15 h12 hba ha hub hf9 C hQ hr hlocks _ 0 (by omega) (Nat.lt_succ_self _) H locs ls hS hP hD (lv_sub hl [2, 3, 1, 0] rfl)
      refine lv_iload_n hx hb dX10_number_43 rfl (lv_at hl 2 rfl) ?_
      refine lv_if_eq (tgt := 54) hx hb dX10_number_44 (by decide) (fun c_44 => ?_) (fun c_44 => ?_)
      · refine lv_iconst (v := 0) hx hb dX10_number_54 (by decide) ?_
        exact J_55 0 (by simp [zr_nb, c_27, eq_true c_44])
      · refine lv_aload_n hx hb dX10_number_47 rfl (lv_at hl 1 rfl) ?_
        refine va_get (ci := 9) (v := .int (M1.1 22)) hx hb hts iX10 hown hK hP 0 rfl rfl 22 (by decide) (hts _ w_833) (fun _ h9 => h9) rfl dX10_number_48 ?_
        refine lv_goto (tgt := 55) hx hb dX10_number_51 (by decide) ?_
        exact J_55 (M1.1 22) (by simp [zr_nb, c_27, c_44])
    · subst hM1
      subst hv_10
      exact zm_rv hQ hx hb hr hlocks hK hP hD hS (by simp [zm_number, zq_upd, c_27]) dX10_number_30
  refine lv_iload_n hx hb dX10_number_1 rfl (lv_at hl 1 rfl) ?_
  refine lv_if_eq (tgt := 9) hx hb dX10_number_2 (by decide) (fun c_2 => ?_) (fun c_2 => ?_)
  · refine lv_iconst (v := 3) hx hb dX10_number_9 (by decide) ?_
    exact J_10 3 (by simp [zr_nk, eq_true c_2])
  · refine lv_iconst (v := 2) hx hb dX10_number_5 (by decide) ?_
    refine lv_goto (tgt := 10) hx hb dX10_number_6 (by decide) ?_
    exact J_10 2 (by simp [zr_nk, c_2])
