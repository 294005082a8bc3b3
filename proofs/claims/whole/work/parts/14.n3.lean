def zr_sm (M : zm_M) (t : Int32) (j : Nat) : Int32 := if M.2.1 8 t.toNatClampNeg = M.1 27 - M.1 23 ∧ ∀ i, i < j → zr_byteAt M (M.2.1 5 t.toNatClampNeg + nI i) = zr_byteAt M (M.1 23 + nI i) then 1 else 0
theorem zr_sm_ne {M : zm_M} {t : Int32} {j : Nat} : ¬ zr_sm M t j = 0 ↔ M.2.1 8 t.toNatClampNeg = M.1 27 - M.1 23 ∧ ∀ i, i < j → zr_byteAt M (M.2.1 5 t.toNatClampNeg + nI i) = zr_byteAt M (M.1 23 + nI i) := by
  unfold zr_sm
  constructor
  · intro h
    split at h
    · assumption
    · exact absurd rfl h
  · intro h
    rw [if_pos h]
    decide
theorem zr_sm_01 (M : zm_M) (t : Int32) (j : Nat) : zr_sm M t j = 0 ∨ zr_sm M t j = 1 := by
  unfold zr_sm
  split
  · exact Or.inr rfl
  · exact Or.inl rfl
theorem zr_sm_0 (M : zm_M) (t : Int32) : zr_sm M t 0 = if M.2.1 8 t.toNatClampNeg = M.1 27 - M.1 23 then 1 else 0 := by
  unfold zr_sm
  simp
theorem zr_sm_succ (M : zm_M) (t : Int32) (j : Nat) : zr_sm M t (j + 1) = if ¬ zr_sm M t j = 0 ∧ zr_byteAt M (M.2.1 5 t.toNatClampNeg + nI j) = zr_byteAt M (M.1 23 + nI j) then 1 else 0 := by
  have e : (¬ zr_sm M t j = 0 ∧ zr_byteAt M (M.2.1 5 t.toNatClampNeg + nI j) = zr_byteAt M (M.1 23 + nI j)) ↔ ¬ zr_sm M t (j + 1) = 0 := by
    rw [zr_sm_ne, zr_sm_ne]
    constructor
    · intro h
      refine ⟨h.1.1, fun i hi => ?_⟩
      rcases Nat.lt_or_ge i j with q | q
      · exact h.1.2 i q
      · have : i = j := by omega
        subst this
        exact h.2
    · intro h
      exact ⟨⟨h.1, fun i hi => h.2 i (by omega)⟩, h.2 j (by omega)⟩
  by_cases h : ¬ zr_sm M t (j + 1) = 0
  · rw [if_pos (e.mpr h)]
    exact (zr_sm_01 M t (j + 1)).resolve_left h
  · rw [if_neg (fun q => h (e.mp q))]
    exact Decidable.of_not_not h
theorem zr_sm_all {M : zm_M} {t : Int32} {wd : Nat} (hw : M.2.1 8 t.toNatClampNeg = nI wd) (h : wd < 2 ^ 31) : zr_same M t = zr_sm M t wd := by
  unfold zr_same zr_sm
  rw [show (M.2.1 8 t.toNatClampNeg).toNatClampNeg = wd by rw [hw]; exact nI_clamp h]
theorem zr_sm_end {M : zm_M} {t : Int32} {j k : Nat} (h : zr_sm M t j = 0) (hk : j ≤ k) : zr_sm M t k = 0 := by
  by_cases q : zr_sm M t k = 0
  · exact q
  · have h9 := zr_sm_ne.mp q
    exact absurd h (zr_sm_ne.mpr ⟨h9.1, fun i hi => h9.2 i (by omega)⟩)
set_option maxHeartbeats 4000000 in
set_option maxRecDepth 100000 in
theorem kL_same (l : Launch) (g : za_G) (E : za_E) (h : Nat) (ad : Nat → Nat) (M : zm_M) (t : Int32) (wd pl sa : Nat) (ht : vp_in t 16384) (hw : M.2.1 8 t.toNatClampNeg = nI wd) (hp : M.2.1 5 t.toNatClampNeg = nI pl) (hpw : pl + wd ≤ 65535) (hsa : M.1 23 = nI sa) (hsw : nI wd = M.1 27 - M.1 23 → sa + wd ≤ 65535) {p : Program} {e : Env} {s : State} {m : MethodId} {args : Array Value} {below : List Frame} {meth : Method} {co : Code} {A : Nat → Prop} {Q : State → Prop} (C : za_H p s m args co cX10_sameName 4 RX10 g E A) (hQ : Q = MQ below (za_qi g (fun r (_ : Unit) => r = zr_same M t) (fun _ => zm_ws g h ad M) A) args s 0 0 A) (hr : meth.sig.returnType = (some .boolean)) (hlocks : meth.locks = false)  : ∀ (n_ : Nat) (j : Nat) (same : Int32), (j ≤ wd) → (same = zr_sm M t j) → wd - j < n_ → ∀ (H : Heap) (locs : List Loc) (ls : Array Slot), va_S A s.heap H locs → va_P g.1 vwCl (zm_ws g h ad M) H → va_D A (zm_ws g h ad M) → lv_has ls 4 [(0, .ref h), (1, .int t), (2, .int same), (3, .int (nI j))] → W p l e (za_R 1 0 0) s m args below meth co H locs 0 0 Q (F0 m 26 ls []) := by
  obtain ⟨hx, hb, hml, hown, hts, hK, hA, hE⟩ := id C
  intro n_
  induction n_ with
  | zero => intro j same hj hs9 hm; exact absurd hm (Nat.not_lt_zero _)
  | succ n_ ih =>
    intro j same hj hs9 hm H locs ls hS hP hD hl
    refine lv_iload_n hx hb dX10_sameName_26 rfl (lv_at hl 3 rfl) ?_
    refine lv_aload_n hx hb dX10_sameName_27 rfl (lv_at hl 0 rfl) ?_
    refine va_get (ci := 9) (v := .ref (ad 8)) hx hb hts iX10 hown hK hP 0 rfl rfl 8 (by decide) (hts _ w_819) (fun _ h9 => h9) rfl dX10_sameName_28 ?_
    refine lv_iload_n hx hb dX10_sameName_31 rfl (lv_at hl 1 rfl) ?_
    refine va_iald (f := M.2.1 8) hx hb hK hP 6 1 rfl rfl ht dX10_sameName_32 ?_
    refine za_icmp_ge (tgt := 77) hx hb dX10_sameName_33 (by decide) (fun c_33 => ?_) (fun c_33 => ?_)
    · have hfin : same = zr_same M t := by
        have e9 : j = wd := by
          rw [hw] at c_33
          rcases Nat.lt_or_ge j wd with h9 | h9
          · exact absurd (nI_lt h9 (by omega)) c_33
          · omega
        rw [zr_sm_all hw (by omega), hs9, e9]
      refine lv_iload_n hx hb dX10_sameName_77 rfl (lv_at hl 2 rfl) ?_
      exact zm_ri hQ hx hb hr hlocks hK hP hD hS (by rcases zr_sm_01 M t j with h9 | h9 <;> rw [hs9, h9] <;> rfl) (by exact hfin) dX10_sameName_78
    · have hjw : j + 1 ≤ wd := by
        rw [hw] at c_33
        exact (nI_ltI (by omega) (by omega)).mp c_33
      refine lv_iload_n hx hb dX10_sameName_36 rfl (lv_at hl 2 rfl) ?_
      refine lv_if_eq (tgt := 77) hx hb dX10_sameName_37 (by decide) (fun c_37 => ?_) (fun c_37 => ?_)
      · have hfin : same = zr_same M t := by
          rw [zr_sm_all hw (by omega), zr_sm_end (by rw [← hs9]; exact c_37) hj]
          exact c_37
        refine lv_iload_n hx hb dX10_sameName_77 rfl (lv_at hl 2 rfl) ?_
        exact zm_ri hQ hx hb hr hlocks hK hP hD hS (by rcases zr_sm_01 M t j with h9 | h9 <;> rw [hs9, h9] <;> rfl) (by exact hfin) dX10_sameName_78
      · have h8 := (zr_sm_ne.mp (hs9 ▸ c_37)).1
        have h7 := hsw (hw.symm.trans h8)
        have J_70 : ∀ (v9 : Int32) (H : Heap) (locs : List Loc), va_P g.1 vwCl (zm_ws g h ad M) H → va_S A s.heap H locs → v9 = (zr_sm M t (j + 1)) → W p l e (za_R 1 0 0) s m args below meth co H locs 0 0 Q (F0 m 70 ls (.int v9 :: [])) := by
          intro v_70 H locs hP hS hv_70
          refine lv_istore_n (lv' := [(2, .int v_70), (0, .ref h), (1, .int t), (3, .int (nI j))]) hx hb dX10_sameName_70 rfl hl (by decide) rfl (fun ls hl => ?_)
          refine lv_iinc (v := nI (j + 1)) (lv' := [(3, .int (nI (j + 1))), (2, .int v_70), (0, .ref h), (1, .int t)]) hx hb dX10_sameName_71 hl (k := 3) rfl (nI_1 j) (by decide) rfl (fun ls hl => ?_)
          refine lv_goto (tgt := 26) hx hb dX10_sameName_74 (by decide) ?_
          exact ih (j + 1) v_70 (hjw) (hv_70) (by omega) H locs ls hS hP hD (lv_sub hl [2, 3, 1, 0] rfl)
        refine lv_aload_n hx hb dX10_sameName_40 rfl (lv_at hl 0 rfl) ?_
        refine lv_aload_n hx hb dX10_sameName_41 rfl (lv_at hl 0 rfl) ?_
        refine va_get (ci := 9) (v := .ref (ad 5)) hx hb hts iX10 hown hK hP 0 rfl rfl 5 (by decide) (hts _ w_816) (fun _ h9 => h9) rfl dX10_sameName_42 ?_
        refine lv_iload_n hx hb dX10_sameName_45 rfl (lv_at hl 1 rfl) ?_
        refine va_iald (f := M.2.1 5) hx hb hK hP 3 1 rfl rfl ht dX10_sameName_46 ?_
        refine lv_iload_n hx hb dX10_sameName_47 rfl (lv_at hl 3 rfl) ?_
        refine lv_iadd hx hb dX10_sameName_48 ?_
        refine za_ci (wc := zm_ws g h ad M) (wr := []) C hP hD hS [0, 1, 2, 3, 4, 5, 6, 7, 8, 9, 10, 11, 12, 13, 14, 15, 16, 17] [] rfl rfl (by decide) (by decide) (za_runV C hP hD hS [0, 1, 2, 3, 4, 5, 6, 7, 8, 9, 10, 11, 12, 13, 14, 15, 16, 17] rfl (by decide) rfl (kX10_byteAt l g E h ad M ((M.2.1 5 t.toNatClampNeg) + (nI j)) (by rw [hp, nI_add]; exact vp_in_nI (by omega) (by omega))) w_965 mX10_byteAt 0 rfl rfl rfl rfl hl.1 rfl (Nat.le_of_ble_eq_true rfl) dX10_sameName_49 ⟨by decide, by decide⟩ ⟨by decide, by decide⟩) (fun r1 _ H locs hr1 hP hD hS => ?_)
        subst hr1
        have hP : va_P g.1 vwCl (zm_ws g h ad M) H := hP
        have hD : va_D A (zm_ws g h ad M) := hD
        refine lv_aload_n hx hb dX10_sameName_52 rfl (lv_at hl 0 rfl) ?_
        refine lv_aload_n hx hb dX10_sameName_53 rfl (lv_at hl 0 rfl) ?_
        refine va_get (ci := 9) (v := .int (M.1 23)) hx hb hts iX10 hown hK hP 0 rfl rfl 23 (by decide) (hts _ w_834) (fun _ h9 => h9) rfl dX10_sameName_54 ?_
        refine lv_iload_n hx hb dX10_sameName_57 rfl (lv_at hl 3 rfl) ?_
        refine lv_iadd hx hb dX10_sameName_58 ?_
        refine za_ci (wc := zm_ws g h ad M) (wr := []) C hP hD hS [0, 1, 2, 3, 4, 5, 6, 7, 8, 9, 10, 11, 12, 13, 14, 15, 16, 17] [] rfl rfl (by decide) (by decide) (za_runV C hP hD hS [0, 1, 2, 3, 4, 5, 6, 7, 8, 9, 10, 11, 12, 13, 14, 15, 16, 17] rfl (by decide) rfl (kX10_byteAt l g E h ad M ((M.1 23) + (nI j)) (by rw [hsa, nI_add]; exact vp_in_nI (by omega) (by omega))) w_965 mX10_byteAt 0 rfl rfl rfl rfl hl.1 rfl (Nat.le_of_ble_eq_true rfl) dX10_sameName_59 ⟨by decide, by decide⟩ ⟨by decide, by decide⟩) (fun r2 _ H locs hr2 hP hD hS => ?_)
        subst hr2
        have hP : va_P g.1 vwCl (zm_ws g h ad M) H := hP
        have hD : va_D A (zm_ws g h ad M) := hD
        refine lv_icmp_ne (tgt := 69) hx hb dX10_sameName_62 (by decide) (fun c_62 => ?_) (fun c_62 => ?_)
        · refine lv_iconst (v := 0) hx hb dX10_sameName_69 (by decide) ?_
          exact J_70 0 H locs hP hS (by rw [zr_sm_succ]; simp [← hs9, c_33, c_37, c_62])
        · refine lv_iconst (v := 1) hx hb dX10_sameName_65 (by decide) ?_
          refine lv_goto (tgt := 70) hx hb dX10_sameName_66 (by decide) ?_
          exact J_70 1 H locs hP hS (by rw [zr_sm_succ]; simp [← hs9, c_33, c_37, eq_true c_62])
set_option maxHeartbeats 4000000 in
set_option maxRecDepth 100000 in
theorem kX10_sameName (l : Launch) (g : za_G) (E : za_E) (h : Nat) (ad : Nat → Nat) (M : zm_M) (t : Int32) (wd pl sa : Nat) (ht : vp_in t 16384) (hw : M.2.1 8 t.toNatClampNeg = nI wd) (hp : M.2.1 5 t.toNatClampNeg = nI pl) (hpw : pl + wd ≤ 65535) (hsa : M.1 23 = nI sa) (hsw : nI wd = M.1 27 - M.1 23 → sa + wd ≤ 65535) : za_Ci l g E yX10_sameName cX10_sameName 4 ((some .boolean)) 1 0 0 [.ref h, .int t] (zm_ws g h ad M) (fun r (_ : Unit) => r = zr_same M t) (fun _ => zm_ws g h ad M) := by
  refine za_begin (by decide) (Nat.le_of_ble_eq_true rfl) RX10 rfl ?_
  intro p e s m args below meth co A ls Q H locs C hQ hr hlocks hnm hS hP hD hl
  obtain ⟨hx, hb, hml, hown, hts, hK, hA, hE⟩ := id C
  have hl : lv_has ls 4 [(0, .ref h), (1, .int t)] := hl
  have J_23 : ∀ v9 : Int32, v9 = (zr_sm M t 0) → W p l e (za_R 1 0 0) s m args below meth co H locs 0 0 Q (F0 m 23 ls (.int v9 :: [])) := by
    intro v_23 hv_23
    refine lv_istore_n (lv' := [(2, .int v_23), (0, .ref h), (1, .int t)]) hx hb dX10_sameName_23 rfl hl (by decide) rfl (fun ls hl => ?_)
    refine lv_iconst (v := 0) hx hb dX10_sameName_24 (by decide) ?_
    refine lv_istore_n (lv' := [(3, .int 0), (2, .int v_23), (0, .ref h), (1, .int t)]) hx hb dX10_sameName_25 rfl hl (by decide) rfl (fun ls hl => ?_)
    exact kL_same l g E h ad M t wd pl sa ht hw hp hpw hsa hsw C hQ hr hlocks _ 0 v_23 (Nat.zero_le _) hv_23 (Nat.lt_succ_self _) H locs ls hS hP hD (lv_sub hl [2, 3, 1, 0] rfl)
  refine lv_aload_n hx hb dX10_sameName_0 rfl (lv_at hl 0 rfl) ?_
  refine va_get (ci := 9) (v := .ref (ad 8)) hx hb hts iX10 hown hK hP 0 rfl rfl 8 (by decide) (hts _ w_819) (fun _ h9 => h9) rfl dX10_sameName_1 ?_
  refine lv_iload_n hx hb dX10_sameName_4 rfl (lv_at hl 1 rfl) ?_
  refine va_iald (f := M.2.1 8) hx hb hK hP 6 1 rfl rfl ht dX10_sameName_5 ?_
  refine lv_aload_n hx hb dX10_sameName_6 rfl (lv_at hl 0 rfl) ?_
  refine va_get (ci := 9) (v := .int (M.1 27)) hx hb hts iX10 hown hK hP 0 rfl rfl 27 (by decide) (hts _ w_838) (fun _ h9 => h9) rfl dX10_sameName_7 ?_
  refine lv_aload_n hx hb dX10_sameName_10 rfl (lv_at hl 0 rfl) ?_
  refine va_get (ci := 9) (v := .int (M.1 23)) hx hb hts iX10 hown hK hP 0 rfl rfl 23 (by decide) (hts _ w_834) (fun _ h9 => h9) rfl dX10_sameName_11 ?_
  refine lv_isub hx hb dX10_sameName_14 ?_
  refine lv_icmp_ne (tgt := 22) hx hb dX10_sameName_15 (by decide) (fun c_15 => ?_) (fun c_15 => ?_)
  · refine lv_iconst (v := 0) hx hb dX10_sameName_22 (by decide) ?_
    exact J_23 0 (by rw [zr_sm_0]; simp [c_15])
  · refine lv_iconst (v := 1) hx hb dX10_sameName_18 (by decide) ?_
    refine lv_goto (tgt := 23) hx hb dX10_sameName_19 (by decide) ?_
    exact J_23 1 (by rw [zr_sm_0]; simp [eq_true c_15])
