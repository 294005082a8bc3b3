theorem zk_more_s {q c : Int32} {k j : Nat} {X : zc_N} (h : k = j + 1) : zk_more q k X c = if zk_bad X q c (nI k) then -1 else zk_more q j (zc_step X) (zk_code X c) := by
  subst h
  rfl
theorem zc_more_s {q c : Int32} {k j : Nat} {X : zc_N} (h : k = j + 1) : zc_more q k X c = if zk_bad X q c (nI k) then zc_refuse X else zc_more q j (zc_step X) (zk_code X c) := by
  subst h
  rfl
theorem zk_left_nI (x : Int32) : zk_left x = nI (zk_left x).toNatClampNeg ∧ (zk_left x).toNatClampNeg ≤ 3 := by
  unfold zk_left
  split
  · exact ⟨rfl, by decide⟩
  · split
    · exact ⟨rfl, by decide⟩
    · exact ⟨rfl, by decide⟩
theorem zi_more (q : Int32) : ∀ (k : Nat) {X : zc_N} (c : Int32), zc_I X → zc_I (zc_more q k X c) := by
  intro k
  induction k with
  | zero => intro X c h; exact h
  | succ k ih =>
    intro X c h
    rw [zc_more_s rfl]
    split
    · exact zi_refuse h
    · exact ih _ (zi_step h)
theorem zL_more (q : Int32) : ∀ (k : Nat) {X : zc_N} (c : Int32), zc_L (zc_more q k X c) = zc_L X := by
  intro k
  induction k with
  | zero => intro X c; rfl
  | succ k ih =>
    intro X c
    rw [zc_more_s rfl]
    split
    · rfl
    · rw [ih, zL_step]
theorem zi_char {N : zc_N} (hI : zc_I N) : zc_I (zc_char N) := by
  unfold zc_char
  split
  · split
    · exact zi_step hI
    · exact zi_refuse hI
  · split
    · exact zi_refuse hI
    · exact zi_more _ _ _ (zi_step hI)
theorem zL_char {N : zc_N} : zc_L (zc_char N) = zc_L N := by
  unfold zc_char
  split
  · split
    · exact zL_step
    · rfl
  · split
    · rfl
    · rw [zL_more, zL_step]
theorem zc_len3 {N : zc_N} (hI : zc_I N) : N.2.2.2 21 = N.2.2.2 23 ∧ N.2.2.2 22 = N.2.2.2 23 := by
  obtain ⟨⟨-, -, -, ⟨d, d1, d2, d3, d4⟩⟩, -⟩ := hI
  exact ⟨d2.trans d4.symm, d3.trans d4.symm⟩
/-- a name more than are known is a token already -/
def zc_K (N : zc_N) : Prop := ∃ k t : Nat, N.1 24 = nI k ∧ N.1 71 = nI t ∧ k < t ∧ t < 2 ^ 31
theorem zc_cap3 {N : zc_N} (hI : zc_I N) (hk : zc_K N) (h : ¬ N.1 24 < nI (N.2.2.2 23)) : zc_L N + 3 * N.2.2.2 23 ≤ 360448 ∧ zc_I (zc_g (zc_g (zc_g N 21 (2 * N.2.2.2 23)) 22 (2 * N.2.2.2 23)) 23 (2 * N.2.2.2 23)) := by
  have hl := zc_len hI 23 (by decide)
  obtain ⟨⟨⟨a, a1, a2⟩, ⟨b, b1, b2⟩, ⟨c, c1, c2⟩, ⟨d, d1, d2, d3, d4⟩⟩, i2, i3, i4, ⟨k, t, k1, k2, k3, k4, k5⟩, i6, i7, i8⟩ := hI
  rw [k1] at h
  have h9 : N.2.2.2 23 ≤ k := by
    rcases Nat.lt_or_ge k (N.2.2.2 23) with q | q
    · exact absurd (nI_lt q (by omega)) h
    · exact q
  have hkt : k < t := by
    obtain ⟨k', t', e1, e2, e3, e4⟩ := hk
    have g1 : k' = k := z_injC (by omega) (by omega) (e1.symm.trans k1)
    have g2 : t' = t := z_injC (by omega) (by omega) (e2.symm.trans k2)
    omega
  have e9 : (2 : Nat) ^ 9 = 512 := rfl
  have e8 : (2 : Nat) ^ 8 = 256 := rfl
  have p0 := Nat.two_pow_pos d
  have hd8 : d + 1 ≤ 9 := z_pow7 (by omega)
  have hd9 := z_pw (show d ≤ 8 by omega)
  have ha := z_pw a1
  have hb := z_pw b1
  have hc := z_pw c1
  refine ⟨?_, ⟨⟨a, a1, a2⟩, ⟨b, b1, b2⟩, ⟨c, c1, c2⟩, ⟨d + 1, hd8, ?_, ?_, ?_⟩⟩, i2, i3, i4, ⟨k, t, k1, k2, k3, k4, ?_⟩, i6, i7, i8⟩
  · unfold zc_L
    omega
  · show 2 * N.2.2.2 23 = _
    rw [d4, Nat.pow_succ]
    omega
  · show 2 * N.2.2.2 23 = _
    rw [d4, Nat.pow_succ]
    omega
  · show 2 * N.2.2.2 23 = _
    rw [d4, Nat.pow_succ]
    omega
  · show k ≤ 2 * N.2.2.2 23
    omega
theorem zc_L_21 {N : zc_N} (hI : zc_I N) : zc_L (zc_g N 21 (2 * N.2.2.2 23)) = zc_L N + N.2.2.2 23 := by
  have h := (zc_len3 hI).1
  simp [zc_L]
  omega
theorem zc_L_22 {N : zc_N} (hI : zc_I N) : zc_L (zc_g (zc_g N 21 (2 * N.2.2.2 23)) 22 (2 * N.2.2.2 23)) = zc_L N + 2 * N.2.2.2 23 := by
  have h := zc_len3 hI
  simp [zc_L]
  omega
theorem zi_grow3 {N : zc_N} (hI : zc_I N) (hk : zc_K N) : zc_I (zc_grow3 N) := by
  unfold zc_grow3
  split
  · exact hI
  · rename_i h
    exact (zc_cap3 hI hk h).2
theorem zc_grow3_1 {N : zc_N} : (zc_grow3 N).1 = N.1 := by
  unfold zc_grow3
  split <;> rfl
theorem zi_named {N : zc_N} (hI : zc_I N) (hk : zc_K N) (hr : ¬ zk_noroom N) (k hs : Int32) : zc_I (zc_named N k hs) := by
  have hl := zc_len hI 23 (by decide)
  obtain ⟨i1, i2, i3, i4, ⟨k9, t, k1, k2, k3, k4, k5⟩, i6, i7, i8⟩ := hI
  obtain ⟨k', t', e1, e2, e3⟩ := hk
  have hlt : N.1 24 < nI (N.2.2.2 23) := Decidable.byContradiction fun z => hr (Or.inl z)
  rw [k1] at hlt
  have h9 : k9 < N.2.2.2 23 := z_lit (by omega) (by omega) hlt
  have hkt : k9 < t := by
    obtain ⟨e3, e4⟩ := e3
    have g1 : k' = k9 := z_injC (by omega) (by omega) (e1.symm.trans k1)
    have g2 : t' = t := z_injC (by omega) (by omega) (e2.symm.trans k2)
    omega
  exact ⟨i1, i2, i3, i4, ⟨k9 + 1, t, (by show N.1 24 + 1 = nI (k9 + 1); rw [k1, nI_1]), k2, hkt, k4, h9⟩, i6, i7, i8⟩
theorem zc_K_grow3 {N : zc_N} (hk : zc_K N) : zc_K (zc_grow3 N) := by
  unfold zc_K
  rw [zc_grow3_1]
  exact hk
theorem zi_addN {N : zc_N} (hI : zc_I N) (hk : zc_K N) (k hs : Int32) : zc_I (zc_addN N k hs) := by
  unfold zc_addN
  split
  · exact zi_grow3 hI hk
  · rename_i h
    exact zi_named (zi_grow3 hI hk) (zc_K_grow3 hk) h k hs
theorem zl_grow3 {N : zc_N} : zc_I N → zc_L N ≤ zc_L (zc_grow3 N) := by
  intro hI
  have h := zc_len3 hI
  unfold zc_grow3
  split
  · exact Nat.le_refl _
  · simp [zc_L]
    omega
theorem zl_addN {N : zc_N} (hI : zc_I N) (k hs : Int32) : zc_L N ≤ zc_L (zc_addN N k hs) := by
  unfold zc_addN
  split
  · exact zl_grow3 hI
  · exact zl_grow3 hI
theorem zi_number {N : zc_N} (hI : zc_I N) (hk : zc_K N) (k hs : Int32) : zc_I (zc_number N k hs) := by
  unfold zc_number
  split
  · exact zi_addN hI hk k hs
  · exact hI
theorem zl_number {N : zc_N} (hI : zc_I N) (k hs : Int32) : zc_L N ≤ zc_L (zc_number N k hs) := by
  unfold zc_number
  split
  · exact zl_addN hI k hs
  · exact Nat.le_refl _
theorem zk_find_s {N : zc_N} {fr ln hs n : Int32} {k j : Nat} (h : k = j + 1) : zk_find N fr ln hs k n = if ¬ n < 0 ∧ n < nI (N.2.2.2 22) ∧ n < nI (N.2.2.2 21) then (if zk_hit N fr ln hs n then n else zk_find N fr ln hs j (N.2.1 21 n.toNatClampNeg)) else -1 := by
  subst h
  rfl
theorem zk_find_0 {N : zc_N} {fr ln hs n : Int32} {k : Nat} (h : ¬ (¬ n < 0 ∧ n < nI (N.2.2.2 22) ∧ n < nI (N.2.2.2 21))) : zk_find N fr ln hs k n = -1 := by
  cases k with
  | zero => rfl
  | succ k => rw [zk_find_s rfl, if_neg h]
theorem zk_find_z {N : zc_N} {fr ln hs n : Int32} {k : Nat} (h : k = 0) : zk_find N fr ln hs k n = -1 := by
  subst h
  rfl
set_option maxHeartbeats 4000000 in
set_option maxRecDepth 100000 in
theorem kL_char (l : Launch) (g : za_G) (E : za_E) (o d : Nat → Nat) (N : zc_N) (q : Int32)  {p : Program} {e : Env} {s : State} {m : MethodId} {args : Array Value} {below : List Frame} {meth : Method} {co : Code} {A : Nat → Prop} {Q : State → Prop} (C : za_H p s m args co cX7_character 8 RX7 g E A) (hQ : Q = MQ below (za_qi g (fun r (u : zc_N) => r = zk_char N ∧ u = zc_char N) (fun u => zc_ws g o d u) A) args s 0 0 A) (hr : meth.sig.returnType = (some .int)) (hlocks : meth.locks = false)  : ∀ (n_ : Nat) (k : Nat) (X : zc_N) (c : Int32), (k ≤ 3) → (zk_char N = zk_more q k X c ∧ zc_char N = zc_more q k X c) → k < n_ → ∀ (H : Heap) (locs : List Loc) (ls : Array Slot), va_S A s.heap H locs → va_P g.1 vwCl (zc_ws g o d X) H → va_D A (zc_ws g o d X) → zc_I X → lv_has ls 8 [(0, .ref (o 6)), (2, .int (nI k)), (3, .int q), (4, .int c)] → W p l e (za_R 2 0 0) s m args below meth co H locs 0 0 Q (F0 m 107 ls []) := by
  obtain ⟨hx, hb, hml, hown, hts, hK, hA, hE⟩ := id C
  intro n_
  induction n_ with
  | zero => intro k X c hk3 hres hm; exact absurd hm (Nat.not_lt_zero _)
  | succ n_ ih =>
    intro k X c hk3 hres hm H locs ls hS hP hD hI hl
    refine lv_iload_n hx hb dX7_character_107 rfl (lv_at hl 1 rfl) ?_
    refine za_if_le (tgt := 201) hx hb dX7_character_108 (by decide) (fun c_108 => ?_) (fun c_108 => ?_)
    · have hk0 : k = 0 := by
        cases k with
        | zero => rfl
        | succ kk => exact absurd (nI_lt (show 0 < kk + 1 by omega) (by omega)) c_108
      refine lv_iload hx hb dX7_character_201 (lv_at hl 3 rfl) ?_
      exact zc_riw hQ hx hb hr hlocks hK hP hD hS rfl (by rw [hres.1, hk0]; rfl) (by rw [hres.2, hk0]; rfl) (Nat.le_refl _) (Nat.le_refl _) dX7_character_203
    · obtain ⟨kk, hk1⟩ : ∃ kk, k = kk + 1 := by
        cases k with
        | zero => exact absurd c_108 (by decide)
        | succ kk => exact ⟨kk, rfl⟩
      refine lv_aload_n hx hb dX7_character_111 rfl (lv_at hl 0 rfl) ?_
      refine za_ci (wc := zc_ws g o d X) (wr := []) C hP hD hS [0, 1, 2, 3, 4, 5, 6, 7, 8, 9, 10, 11, 12, 13, 14, 15, 16] [] rfl rfl (by decide) (by decide) (za_runV C hP hD hS [0, 1, 2, 3, 4, 5, 6, 7, 8, 9, 10, 11, 12, 13, 14, 15, 16] rfl (by decide) rfl (kX7_here l g E o d X  hI ) w_397 mX7_here 6 rfl rfl rfl rfl hl.1 rfl (Nat.le_of_ble_eq_true rfl) dX7_character_112 ⟨Nat.le_of_ble_eq_true rfl, Nat.le_of_ble_eq_true rfl⟩ ⟨Nat.le_refl _, Nat.le_refl _⟩) (fun r1 _ H locs hr1 hP hD hS => ?_)
      subst hr1
      have hP : va_P g.1 vwCl (zc_ws g o d X) H := hP
      have hD : va_D A (zc_ws g o d X) := hD
      refine lv_istore (lv' := [(5, .int (zk_here X)), (0, .ref (o 6)), (2, .int (nI k)), (3, .int q), (4, .int c)]) hx hb dX7_character_115 hl (by decide) rfl (fun ls hl => ?_)
      refine lv_iload hx hb dX7_character_117 (lv_at hl 4 rfl) ?_
      refine lv_bipush (v := 6) hx hb dX7_character_119 (by decide) ?_
      refine lv_ishl hx hb dX7_character_121 ?_
      refine lv_iload hx hb dX7_character_122 (lv_at hl 0 rfl) ?_
      refine lv_bipush (v := 63) hx hb dX7_character_124 (by decide) ?_
      refine lv_iand hx hb dX7_character_126 ?_
      refine lv_ior hx hb dX7_character_127 ?_
      refine lv_istore (lv' := [(4, .int ((c <<< ((6 : Int32) &&& 31)) ||| ((zk_here X) &&& 63))), (5, .int (zk_here X)), (0, .ref (o 6)), (2, .int (nI k)), (3, .int q)]) hx hb dX7_character_128 hl (by decide) rfl (fun ls hl => ?_)
      refine lv_iload hx hb dX7_character_130 (lv_at hl 0 rfl) ?_
      refine lv_bipush (v := 6) hx hb dX7_character_132 (by decide) ?_
      refine lv_iload_n hx hb dX7_character_134 rfl (lv_at hl 3 rfl) ?_
      refine lv_iconst (v := 1) hx hb dX7_character_135 (by decide) ?_
      refine lv_isub hx hb dX7_character_136 ?_
      refine lv_imul hx hb dX7_character_137 ?_
      refine lv_ishl hx hb dX7_character_138 ?_
      refine lv_istore (lv' := [(6, .int (((c <<< ((6 : Int32) &&& 31)) ||| ((zk_here X) &&& 63)) <<< ((6 * ((nI k) - 1)) &&& 31))), (4, .int ((c <<< ((6 : Int32) &&& 31)) ||| ((zk_here X) &&& 63))), (5, .int (zk_here X)), (0, .ref (o 6)), (2, .int (nI k)), (3, .int q)]) hx hb dX7_character_139 hl (by decide) rfl (fun ls hl => ?_)
      refine lv_iload hx hb dX7_character_141 (lv_at hl 0 rfl) ?_
      refine lv_iconst (v := 1) hx hb dX7_character_143 (by decide) ?_
      refine lv_bipush (v := 6) hx hb dX7_character_144 (by decide) ?_
      refine lv_iload_n hx hb dX7_character_146 rfl (lv_at hl 4 rfl) ?_
      refine lv_iconst (v := 1) hx hb dX7_character_147 (by decide) ?_
      refine lv_isub hx hb dX7_character_148 ?_
      refine lv_imul hx hb dX7_character_149 ?_
      refine lv_ishl hx hb dX7_character_150 ?_
      refine lv_iadd hx hb dX7_character_151 ?_
      refine lv_iconst (v := 1) hx hb dX7_character_152 (by decide) ?_
      refine lv_isub hx hb dX7_character_153 ?_
      refine lv_istore (lv' := [(7, .int (((((c <<< ((6 : Int32) &&& 31)) ||| ((zk_here X) &&& 63)) <<< ((6 * ((nI k) - 1)) &&& 31)) + ((1 : Int32) <<< ((6 * ((nI k) - 1)) &&& 31))) - 1)), (6, .int (((c <<< ((6 : Int32) &&& 31)) ||| ((zk_here X) &&& 63)) <<< ((6 * ((nI k) - 1)) &&& 31))), (4, .int ((c <<< ((6 : Int32) &&& 31)) ||| ((zk_here X) &&& 63))), (5, .int (zk_here X)), (0, .ref (o 6)), (2, .int (nI k)), (3, .int q)]) hx hb dX7_character_154 hl (by decide) rfl (fun ls hl => ?_)
      refine lv_iload hx hb dX7_character_156 (lv_at hl 3 rfl) ?_
      refine lv_sipush (v := 192) hx hb dX7_character_158 (by decide) ?_
      refine lv_iand hx hb dX7_character_161 ?_
      refine lv_sipush (v := 128) hx hb dX7_character_162 (by decide) ?_
      refine lv_icmp_ne (tgt := 186) hx hb dX7_character_165 (by decide) (fun c_165 => ?_) (fun c_165 => ?_)
      · refine lv_aload_n hx hb dX7_character_186 rfl (lv_at hl 4 rfl) ?_
        refine za_ci (wc := zc_ws g o d X) (wr := []) C hP hD hS [0, 1, 2, 3, 4, 5, 6, 7, 8, 9, 10, 11, 12, 13, 14, 15, 16] [] rfl rfl (by decide) (by decide) (za_runV C hP hD hS [0, 1, 2, 3, 4, 5, 6, 7, 8, 9, 10, 11, 12, 13, 14, 15, 16] rfl (by decide) rfl (kX7_refuse l g E o d X  hI ) w_411 mX7_refuse 6 rfl rfl rfl rfl hl.1 rfl (Nat.le_of_ble_eq_true rfl) dX7_character_187 ⟨Nat.le_of_ble_eq_true rfl, Nat.le_of_ble_eq_true rfl⟩ ⟨Nat.le_refl _, Nat.le_refl _⟩) (fun r2 N2 H locs hN2 hP hD hS => ?_)
        obtain ⟨hr2, hN2⟩ := hN2
        have hI : zc_I N2 := by rw [hN2]; exact zi_refuse hI
        have hP : va_P g.1 vwCl (zc_ws g o d N2) H := hP
        have hD : va_D A (zc_ws g o d N2) := hD
        exact zc_riw hQ hx hb hr hlocks hK hP hD hS rfl (by rw [hr2, hres.1, zk_more_s hk1, if_pos (show zk_bad X q c (nI k) from Or.inl c_165)]) (by rw [hN2, hres.2, zc_more_s hk1, if_pos (show zk_bad X q c (nI k) from Or.inl c_165)]) (Nat.le_refl _) (Nat.le_refl _) dX7_character_190
      · refine lv_iload hx hb dX7_character_168 (lv_at hl 0 rfl) ?_
        refine lv_iload_n hx hb dX7_character_170 rfl (lv_at hl 6 rfl) ?_
        refine lv_icmp_lt (tgt := 186) hx hb dX7_character_171 (by decide) (fun c_171 => ?_) (fun c_171 => ?_)
        · refine lv_aload_n hx hb dX7_character_186 rfl (lv_at hl 4 rfl) ?_
          refine za_ci (wc := zc_ws g o d X) (wr := []) C hP hD hS [0, 1, 2, 3, 4, 5, 6, 7, 8, 9, 10, 11, 12, 13, 14, 15, 16] [] rfl rfl (by decide) (by decide) (za_runV C hP hD hS [0, 1, 2, 3, 4, 5, 6, 7, 8, 9, 10, 11, 12, 13, 14, 15, 16] rfl (by decide) rfl (kX7_refuse l g E o d X  hI ) w_411 mX7_refuse 6 rfl rfl rfl rfl hl.1 rfl (Nat.le_of_ble_eq_true rfl) dX7_character_187 ⟨Nat.le_of_ble_eq_true rfl, Nat.le_of_ble_eq_true rfl⟩ ⟨Nat.le_refl _, Nat.le_refl _⟩) (fun r3 N3 H locs hN3 hP hD hS => ?_)
          obtain ⟨hr3, hN3⟩ := hN3
          have hI : zc_I N3 := by rw [hN3]; exact zi_refuse hI
          have hP : va_P g.1 vwCl (zc_ws g o d N3) H := hP
          have hD : va_D A (zc_ws g o d N3) := hD
          exact zc_riw hQ hx hb hr hlocks hK hP hD hS rfl (by rw [hr3, hres.1, zk_more_s hk1, if_pos (show zk_bad X q c (nI k) from Or.inr (Or.inl c_171))]) (by rw [hN3, hres.2, zc_more_s hk1, if_pos (show zk_bad X q c (nI k) from Or.inr (Or.inl c_171))]) (Nat.le_refl _) (Nat.le_refl _) dX7_character_190
        · refine lv_iload hx hb dX7_character_174 (lv_at hl 1 rfl) ?_
          refine lv_i2l (v := (((c <<< ((6 : Int32) &&& 31)) ||| ((zk_here X) &&& 63)) <<< ((6 * ((nI k) - 1)) &&& 31)).toInt64) hx hb dX7_character_176 rfl ?_
          refine lv_iload hx hb dX7_character_177 (lv_at hl 0 rfl) ?_
          refine lv_i2l (v := (((((c <<< ((6 : Int32) &&& 31)) ||| ((zk_here X) &&& 63)) <<< ((6 * ((nI k) - 1)) &&& 31)) + ((1 : Int32) <<< ((6 * ((nI k) - 1)) &&& 31))) - 1).toInt64) hx hb dX7_character_179 rfl ?_
          refine za_ci (wc := []) (wr := zc_ws g o d X) C hP hD hS [] [0, 1, 2, 3, 4, 5, 6, 7, 8, 9, 10, 11, 12, 13, 14, 15, 16] rfl rfl (by decide) (by decide) (za_runSN C hP hD hS [] rfl (by decide) rfl (kX9_holdsCode l g E ((((c <<< ((6 : Int32) &&& 31)) ||| ((zk_here X) &&& 63)) <<< ((6 * ((nI k) - 1)) &&& 31)).toInt64) ((((((c <<< ((6 : Int32) &&& 31)) ||| ((zk_here X) &&& 63)) <<< ((6 * ((nI k) - 1)) &&& 31)) + ((1 : Int32) <<< ((6 * ((nI k) - 1)) &&& 31))) - 1).toInt64) ) zn_X7_49 mX9_holdsCode rfl hl.1 rfl (Nat.le_of_ble_eq_true rfl) dX7_character_180 ⟨Nat.le_of_ble_eq_true rfl, Nat.le_of_ble_eq_true rfl⟩ ⟨Nat.le_refl _, Nat.le_refl _⟩) (fun r4 _ H locs hr4 hP hD hS => ?_)
          subst hr4
          have hP : va_P g.1 vwCl (zc_ws g o d X) H := hP
          have hD : va_D A (zc_ws g o d X) := hD
          refine lv_if_ne (tgt := 191) hx hb dX7_character_183 (by decide) (fun c_183 => ?_) (fun c_183 => ?_)
          · refine lv_aload_n hx hb dX7_character_191 rfl (lv_at hl 4 rfl) ?_
            refine za_cv (wc := zc_ws g o d X) (wr := []) C hP hD hS [0, 1, 2, 3, 4, 5, 6, 7, 8, 9, 10, 11, 12, 13, 14, 15, 16] [] rfl rfl (by decide) (by decide) (za_runV C hP hD hS [0, 1, 2, 3, 4, 5, 6, 7, 8, 9, 10, 11, 12, 13, 14, 15, 16] rfl (by decide) rfl (kX7_step l g E o d X  hI ) w_415 mX7_step 6 rfl rfl rfl rfl hl.1 rfl (Nat.le_of_ble_eq_true rfl) dX7_character_192 ⟨Nat.le_of_ble_eq_true rfl, Nat.le_of_ble_eq_true rfl⟩ ⟨Nat.le_refl _, Nat.le_refl _⟩) (fun N5 H locs hN5 hP hD hS => ?_)
            have hI : zc_I N5 := by rw [hN5]; exact zi_step hI
            have hP : va_P g.1 vwCl (zc_ws g o d N5) H := hP
            have hD : va_D A (zc_ws g o d N5) := hD
            refine lv_iinc (v := nI kk) (lv' := [(2, .int (nI kk)), (7, .int (((((c <<< ((6 : Int32) &&& 31)) ||| ((zk_here X) &&& 63)) <<< ((6 * ((nI k) - 1)) &&& 31)) + ((1 : Int32) <<< ((6 * ((nI k) - 1)) &&& 31))) - 1)), (6, .int (((c <<< ((6 : Int32) &&& 31)) ||| ((zk_here X) &&& 63)) <<< ((6 * ((nI k) - 1)) &&& 31))), (4, .int ((c <<< ((6 : Int32) &&& 31)) ||| ((zk_here X) &&& 63))), (5, .int (zk_here X)), (0, .ref (o 6)), (3, .int q)]) hx hb dX7_character_195 hl (k := 5) rfl (by rw [hk1, ← nI_pred kk, Int32.sub_eq_add_neg]; rfl) (by decide) rfl (fun ls hl => ?_)
            refine lv_goto (tgt := 107) hx hb dX7_character_198 (by decide) ?_
            exact ih kk N5 (zk_code X c) (by omega) (⟨by rw [hres.1, zk_more_s hk1, if_neg (fun h9 => by rcases h9 with h9 | h9 | h9; exact h9 c_165; exact c_171 h9; exact c_183 h9), hN5], by rw [hres.2, zc_more_s hk1, if_neg (fun h9 => by rcases h9 with h9 | h9 | h9; exact h9 c_165; exact c_171 h9; exact c_183 h9), hN5]⟩) (by omega) H locs ls hS hP hD hI (lv_sub hl [5, 0, 6, 3] rfl)
          · refine lv_aload_n hx hb dX7_character_186 rfl (lv_at hl 4 rfl) ?_
            refine za_ci (wc := zc_ws g o d X) (wr := []) C hP hD hS [0, 1, 2, 3, 4, 5, 6, 7, 8, 9, 10, 11, 12, 13, 14, 15, 16] [] rfl rfl (by decide) (by decide) (za_runV C hP hD hS [0, 1, 2, 3, 4, 5, 6, 7, 8, 9, 10, 11, 12, 13, 14, 15, 16] rfl (by decide) rfl (kX7_refuse l g E o d X  hI ) w_411 mX7_refuse 6 rfl rfl rfl rfl hl.1 rfl (Nat.le_of_ble_eq_true rfl) dX7_character_187 ⟨Nat.le_of_ble_eq_true rfl, Nat.le_of_ble_eq_true rfl⟩ ⟨Nat.le_refl _, Nat.le_refl _⟩) (fun r6 N6 H locs hN6 hP hD hS => ?_)
            obtain ⟨hr6, hN6⟩ := hN6
            have hI : zc_I N6 := by rw [hN6]; exact zi_refuse hI
            have hP : va_P g.1 vwCl (zc_ws g o d N6) H := hP
            have hD : va_D A (zc_ws g o d N6) := hD
            exact zc_riw hQ hx hb hr hlocks hK hP hD hS rfl (by rw [hr6, hres.1, zk_more_s hk1, if_pos (show zk_bad X q c (nI k) from Or.inr (Or.inr c_183))]) (by rw [hN6, hres.2, zc_more_s hk1, if_pos (show zk_bad X q c (nI k) from Or.inr (Or.inr c_183))]) (Nat.le_refl _) (Nat.le_refl _) dX7_character_190
set_option maxHeartbeats 4000000 in
set_option maxRecDepth 100000 in
theorem kX7_character (l : Launch) (g : za_G) (E : za_E) (o d : Nat → Nat) (N : zc_N)  (hI : zc_I N) : za_Ci l g E yX7_character cX7_character 8 ((some .int)) 2 0 0 [.ref (o 6)] (zc_ws g o d N) (fun r (u : zc_N) => r = zk_char N ∧ u = zc_char N) (fun u => zc_ws g o d u) := by
  refine za_begin (by decide) (Nat.le_of_ble_eq_true rfl) RX7 rfl ?_
  intro p e s m args below meth co A ls Q H locs C hQ hr hlocks hnm hS hP hD hl
  obtain ⟨hx, hb, hml, hown, hts, hK, hA, hE⟩ := id C
  have hl : lv_has ls 8 [(0, .ref (o 6))] := hl
  refine lv_aload_n hx hb dX7_character_0 rfl (lv_at hl 0 rfl) ?_
  refine za_ci (wc := zc_ws g o d N) (wr := []) C hP hD hS [0, 1, 2, 3, 4, 5, 6, 7, 8, 9, 10, 11, 12, 13, 14, 15, 16] [] rfl rfl (by decide) (by decide) (za_runV C hP hD hS [0, 1, 2, 3, 4, 5, 6, 7, 8, 9, 10, 11, 12, 13, 14, 15, 16] rfl (by decide) rfl (kX7_here l g E o d N  hI ) w_397 mX7_here 6 rfl rfl rfl rfl hl.1 rfl (Nat.le_of_ble_eq_true rfl) dX7_character_1 ⟨Nat.le_of_ble_eq_true rfl, Nat.le_of_ble_eq_true rfl⟩ ⟨Nat.le_refl _, Nat.le_refl _⟩) (fun r1 _ H locs hr1 hP hD hS => ?_)
  subst hr1
  have hP : va_P g.1 vwCl (zc_ws g o d N) H := hP
  have hD : va_D A (zc_ws g o d N) := hD
  refine lv_istore_n (lv' := [(1, .int (zk_here N)), (0, .ref (o 6))]) hx hb dX7_character_4 rfl hl (by decide) rfl (fun ls hl => ?_)
  refine lv_iload_n hx hb dX7_character_5 rfl (lv_at hl 0 rfl) ?_
  refine lv_sipush (v := 128) hx hb dX7_character_6 (by decide) ?_
  refine za_icmp_ge (tgt := 27) hx hb dX7_character_9 (by decide) (fun c_9 => ?_) (fun c_9 => ?_)
  · refine lv_iload_n hx hb dX7_character_27 rfl (lv_at hl 0 rfl) ?_
    refine lv_sipush (v := 194) hx hb dX7_character_28 (by decide) ?_
    refine lv_icmp_lt (tgt := 41) hx hb dX7_character_31 (by decide) (fun c_31 => ?_) (fun c_31 => ?_)
    · refine lv_aload_n hx hb dX7_character_41 rfl (lv_at hl 1 rfl) ?_
      refine za_ci (wc := zc_ws g o d N) (wr := []) C hP hD hS [0, 1, 2, 3, 4, 5, 6, 7, 8, 9, 10, 11, 12, 13, 14, 15, 16] [] rfl rfl (by decide) (by decide) (za_runV C hP hD hS [0, 1, 2, 3, 4, 5, 6, 7, 8, 9, 10, 11, 12, 13, 14, 15, 16] rfl (by decide) rfl (kX7_refuse l g E o d N  hI ) w_411 mX7_refuse 6 rfl rfl rfl rfl hl.1 rfl (Nat.le_of_ble_eq_true rfl) dX7_character_42 ⟨Nat.le_of_ble_eq_true rfl, Nat.le_of_ble_eq_true rfl⟩ ⟨Nat.le_refl _, Nat.le_refl _⟩) (fun r2 N2 H locs hN2 hP hD hS => ?_)
      obtain ⟨hr2, hN2⟩ := hN2
      have hI : zc_I N2 := by rw [hN2]; exact zi_refuse hI
      have hP : va_P g.1 vwCl (zc_ws g o d N2) H := hP
      have hD : va_D A (zc_ws g o d N2) := hD
      subst hN2
      subst hr2
      exact zc_riw hQ hx hb hr hlocks hK hP hD hS rfl (by simp [zk_char, zc_char, zq_upd, c_9, c_31]) (by simp [zk_char, zc_char, zq_upd, c_9, c_31]) (Nat.le_refl _) (Nat.le_refl _) dX7_character_45
    · refine lv_iload_n hx hb dX7_character_34 rfl (lv_at hl 0 rfl) ?_
      refine lv_sipush (v := 244) hx hb dX7_character_35 (by decide) ?_
      refine za_icmp_le (tgt := 46) hx hb dX7_character_38 (by decide) (fun c_38 => ?_) (fun c_38 => ?_)
      · refine lv_aload_n hx hb dX7_character_46 rfl (lv_at hl 1 rfl) ?_
        refine za_cv (wc := zc_ws g o d N) (wr := []) C hP hD hS [0, 1, 2, 3, 4, 5, 6, 7, 8, 9, 10, 11, 12, 13, 14, 15, 16] [] rfl rfl (by decide) (by decide) (za_runV C hP hD hS [0, 1, 2, 3, 4, 5, 6, 7, 8, 9, 10, 11, 12, 13, 14, 15, 16] rfl (by decide) rfl (kX7_step l g E o d N  hI ) w_415 mX7_step 6 rfl rfl rfl rfl hl.1 rfl (Nat.le_of_ble_eq_true rfl) dX7_character_47 ⟨Nat.le_of_ble_eq_true rfl, Nat.le_of_ble_eq_true rfl⟩ ⟨Nat.le_refl _, Nat.le_refl _⟩) (fun N3 H locs hN3 hP hD hS => ?_)
        have hI : zc_I N3 := by rw [hN3]; exact zi_step hI
        have hP : va_P g.1 vwCl (zc_ws g o d N3) H := hP
        have hD : va_D A (zc_ws g o d N3) := hD
        have J_73 : ∀ v9 : Int32, v9 = (zk_left (zk_here N)) → W p l e (za_R 2 0 0) s m args below meth co H locs 0 0 Q (F0 m 73 ls (.int v9 :: [])) := by
          intro v_73 hv_73
          refine lv_istore_n (lv' := [(2, .int v_73), (1, .int (zk_here N)), (0, .ref (o 6))]) hx hb dX7_character_73 rfl hl (by decide) rfl (fun ls hl => ?_)
          have J_98 : ∀ v9 : Int32, v9 = (zk_least v_73) → W p l e (za_R 2 0 0) s m args below meth co H locs 0 0 Q (F0 m 98 ls (.int v9 :: [])) := by
            intro v_98 hv_98
            refine lv_istore_n (lv' := [(3, .int v_98), (2, .int v_73), (1, .int (zk_here N)), (0, .ref (o 6))]) hx hb dX7_character_98 rfl hl (by decide) rfl (fun ls hl => ?_)
            refine lv_iload_n hx hb dX7_character_99 rfl (lv_at hl 2 rfl) ?_
            refine lv_bipush (v := 63) hx hb dX7_character_100 (by decide) ?_
            refine lv_iload_n hx hb dX7_character_102 rfl (lv_at hl 1 rfl) ?_
            refine lv_ishr hx hb dX7_character_103 ?_
            refine lv_iand hx hb dX7_character_104 ?_
            refine lv_istore (lv' := [(4, .int ((zk_here N) &&& ((63 : Int32) >>> (v_73 &&& 31)))), (3, .int v_98), (2, .int v_73), (1, .int (zk_here N)), (0, .ref (o 6))]) hx hb dX7_character_105 hl (by decide) rfl (fun ls hl => ?_)
            obtain ⟨hk1, hk3⟩ := zk_left_nI (zk_here N)
            have hk2 : v_73 = nI (zk_left (zk_here N)).toNatClampNeg := hv_73.trans hk1
            rw [hk2] at hl
            exact kL_char l g E o d N v_98 C hQ hr hlocks _ (zk_left (zk_here N)).toNatClampNeg N3 (zk_here N &&& ((63 : Int32) >>> (nI (zk_left (zk_here N)).toNatClampNeg &&& 31))) hk3 ⟨by unfold zk_char; rw [if_neg c_9, if_neg (fun h9 => by rcases h9 with h9 | h9; exact c_31 h9; exact c_38 h9), hv_98, hv_73, ← hN3, ← hk1], by unfold zc_char; rw [if_neg c_9, if_neg (fun h9 => by rcases h9 with h9 | h9; exact c_31 h9; exact c_38 h9), hv_98, hv_73, ← hN3, ← hk1]⟩ (Nat.lt_succ_self _) H locs ls hS hP hD hI (lv_sub hl [4, 2, 1, 0] rfl)
          refine lv_iload_n hx hb dX7_character_74 rfl (lv_at hl 0 rfl) ?_
          refine lv_iconst (v := 3) hx hb dX7_character_75 (by decide) ?_
          refine lv_icmp_ne (tgt := 84) hx hb dX7_character_76 (by decide) (fun c_76 => ?_) (fun c_76 => ?_)
          · refine lv_iload_n hx hb dX7_character_84 rfl (lv_at hl 0 rfl) ?_
            refine lv_iconst (v := 2) hx hb dX7_character_85 (by decide) ?_
            refine lv_icmp_ne (tgt := 95) hx hb dX7_character_86 (by decide) (fun c_86 => ?_) (fun c_86 => ?_)
            · refine lv_sipush (v := 128) hx hb dX7_character_95 (by decide) ?_
              exact J_98 128 (by simp [zk_least, c_9, c_31, c_38, c_76, c_86])
            · refine lv_sipush (v := 2048) hx hb dX7_character_89 (by decide) ?_
              refine lv_goto (tgt := 98) hx hb dX7_character_92 (by decide) ?_
              exact J_98 2048 (by simp [zk_least, c_9, c_31, c_38, c_76, eq_true c_86])
          · refine lv_ldc (v := 65536) hx hb hown (hts _ w_287) dX7_character_79 ?_
            refine lv_goto (tgt := 98) hx hb dX7_character_81 (by decide) ?_
            exact J_98 65536 (by simp [zk_least, c_9, c_31, c_38, eq_true c_76])
        refine lv_iload_n hx hb dX7_character_50 rfl (lv_at hl 0 rfl) ?_
        refine lv_sipush (v := 240) hx hb dX7_character_51 (by decide) ?_
        refine lv_icmp_lt (tgt := 61) hx hb dX7_character_54 (by decide) (fun c_54 => ?_) (fun c_54 => ?_)
        · refine lv_iload_n hx hb dX7_character_61 rfl (lv_at hl 0 rfl) ?_
          refine lv_sipush (v := 224) hx hb dX7_character_62 (by decide) ?_
          refine lv_icmp_lt (tgt := 72) hx hb dX7_character_65 (by decide) (fun c_65 => ?_) (fun c_65 => ?_)
          · refine lv_iconst (v := 1) hx hb dX7_character_72 (by decide) ?_
            exact J_73 1 (by simp [zk_left, c_9, c_31, c_38, c_54, c_65])
          · refine lv_iconst (v := 2) hx hb dX7_character_68 (by decide) ?_
            refine lv_goto (tgt := 73) hx hb dX7_character_69 (by decide) ?_
            exact J_73 2 (by simp [zk_left, c_9, c_31, c_38, c_54, c_65])
        · refine lv_iconst (v := 3) hx hb dX7_character_57 (by decide) ?_
          refine lv_goto (tgt := 73) hx hb dX7_character_58 (by decide) ?_
          exact J_73 3 (by simp [zk_left, c_9, c_31, c_38, c_54])
      · refine lv_aload_n hx hb dX7_character_41 rfl (lv_at hl 1 rfl) ?_
        refine za_ci (wc := zc_ws g o d N) (wr := []) C hP hD hS [0, 1, 2, 3, 4, 5, 6, 7, 8, 9, 10, 11, 12, 13, 14, 15, 16] [] rfl rfl (by decide) (by decide) (za_runV C hP hD hS [0, 1, 2, 3, 4, 5, 6, 7, 8, 9, 10, 11, 12, 13, 14, 15, 16] rfl (by decide) rfl (kX7_refuse l g E o d N  hI ) w_411 mX7_refuse 6 rfl rfl rfl rfl hl.1 rfl (Nat.le_of_ble_eq_true rfl) dX7_character_42 ⟨Nat.le_of_ble_eq_true rfl, Nat.le_of_ble_eq_true rfl⟩ ⟨Nat.le_refl _, Nat.le_refl _⟩) (fun r4 N4 H locs hN4 hP hD hS => ?_)
        obtain ⟨hr4, hN4⟩ := hN4
        have hI : zc_I N4 := by rw [hN4]; exact zi_refuse hI
        have hP : va_P g.1 vwCl (zc_ws g o d N4) H := hP
        have hD : va_D A (zc_ws g o d N4) := hD
        subst hN4
        subst hr4
        exact zc_riw hQ hx hb hr hlocks hK hP hD hS rfl (by simp [zk_char, zc_char, zq_upd, c_9, c_31, c_38]) (by simp [zk_char, zc_char, zq_upd, c_9, c_31, c_38]) (Nat.le_refl _) (Nat.le_refl _) dX7_character_45
  · refine lv_iload_n hx hb dX7_character_12 rfl (lv_at hl 0 rfl) ?_
    refine lv_if_gt (tgt := 21) hx hb dX7_character_13 (by decide) (fun c_13 => ?_) (fun c_13 => ?_)
    · refine lv_aload_n hx hb dX7_character_21 rfl (lv_at hl 1 rfl) ?_
      refine za_cv (wc := zc_ws g o d N) (wr := []) C hP hD hS [0, 1, 2, 3, 4, 5, 6, 7, 8, 9, 10, 11, 12, 13, 14, 15, 16] [] rfl rfl (by decide) (by decide) (za_runV C hP hD hS [0, 1, 2, 3, 4, 5, 6, 7, 8, 9, 10, 11, 12, 13, 14, 15, 16] rfl (by decide) rfl (kX7_step l g E o d N  hI ) w_415 mX7_step 6 rfl rfl rfl rfl hl.1 rfl (Nat.le_of_ble_eq_true rfl) dX7_character_22 ⟨Nat.le_of_ble_eq_true rfl, Nat.le_of_ble_eq_true rfl⟩ ⟨Nat.le_refl _, Nat.le_refl _⟩) (fun N5 H locs hN5 hP hD hS => ?_)
      have hI : zc_I N5 := by rw [hN5]; exact zi_step hI
      have hP : va_P g.1 vwCl (zc_ws g o d N5) H := hP
      have hD : va_D A (zc_ws g o d N5) := hD
      refine lv_iload_n hx hb dX7_character_25 rfl (lv_at hl 0 rfl) ?_
      subst hN5
      exact zc_riw hQ hx hb hr hlocks hK hP hD hS rfl (by simp [zk_char, zc_char, zq_upd, c_9, c_13]) (by simp [zk_char, zc_char, zq_upd, c_9, c_13]) (Nat.le_refl _) (Nat.le_refl _) dX7_character_26
    · refine lv_aload_n hx hb dX7_character_16 rfl (lv_at hl 1 rfl) ?_
      refine za_ci (wc := zc_ws g o d N) (wr := []) C hP hD hS [0, 1, 2, 3, 4, 5, 6, 7, 8, 9, 10, 11, 12, 13, 14, 15, 16] [] rfl rfl (by decide) (by decide) (za_runV C hP hD hS [0, 1, 2, 3, 4, 5, 6, 7, 8, 9, 10, 11, 12, 13, 14, 15, 16] rfl (by decide) rfl (kX7_refuse l g E o d N  hI ) w_411 mX7_refuse 6 rfl rfl rfl rfl hl.1 rfl (Nat.le_of_ble_eq_true rfl) dX7_character_17 ⟨Nat.le_of_ble_eq_true rfl, Nat.le_of_ble_eq_true rfl⟩ ⟨Nat.le_refl _, Nat.le_refl _⟩) (fun r6 N6 H locs hN6 hP hD hS => ?_)
      obtain ⟨hr6, hN6⟩ := hN6
      have hI : zc_I N6 := by rw [hN6]; exact zi_refuse hI
      have hP : va_P g.1 vwCl (zc_ws g o d N6) H := hP
      have hD : va_D A (zc_ws g o d N6) := hD
      subst hN6
      subst hr6
      exact zc_riw hQ hx hb hr hlocks hK hP hD hS rfl (by simp [zk_char, zc_char, zq_upd, c_9, c_13]) (by simp [zk_char, zc_char, zq_upd, c_9, c_13]) (Nat.le_refl _) (Nat.le_refl _) dX7_character_20
set_option maxHeartbeats 4000000 in
set_option maxRecDepth 100000 in
theorem kX2_add (l : Launch) (g : za_G) (E : za_E) (o d : Nat → Nat) (N : zc_N) (k hs : Int32) (hI : zc_I N) (hk : zc_K N) : zb_Ci l g E yX2_add cX2_add 4 ((some .int)) 2 (zc_rc N) (zc_rs N) (zc_L (zc_addN N k hs) - zc_L N) (2 * (zc_L (zc_addN N k hs) - zc_L N)) [.ref (o 2), .int k, .int hs] (zc_ws g o d N) (fun r (u : zc_N × (Nat → Nat)) => r = zk_addN N ∧ u.1 = zc_addN N k hs) (fun u => zc_ws g o u.2 u.1) := by
  refine zb_begin (by decide) (Nat.le_of_ble_eq_true rfl) RX2 rfl ?_
  intro p e s m args below meth co A ls Q H locs C hQ hr hlocks hnm hS hP hD hl
  obtain ⟨hx, hb, hml, hown, hts, hK, hA, hE⟩ := id C
  have hl : lv_has ls 4 [(0, .ref (o 2)), (1, .int k), (2, .int hs)] := hl
  have hc : zb_c N N 0 0 := zb_c.rf
  revert hc
  refine (fun (z9 : ∀ cells slots : Nat, zb_c N N cells slots → W p l e (za_R 2 (zc_rc N) (zc_rs N)) s m args below meth co H locs cells slots Q (F0 m 0 ls [])) hc => z9 0 0 hc) (fun cells slots hc => ?_)
  have hI0 := hI
  obtain ⟨he21, he22⟩ := zc_len3 hI
  have hl23 := zc_len hI 23 (by decide)
  refine lv_aload_n hx hb dX2_add_0 rfl (lv_at hl 0 rfl) ?_
  refine va_get (ci := 2) (v := .int (N.1 24)) hx hb hts iX2 hown hK hP 2 rfl rfl 4 (by decide) (hts _ w_154) (fun _ h9 => h9) rfl dX2_add_1 ?_
  refine lv_aload_n hx hb dX2_add_4 rfl (lv_at hl 0 rfl) ?_
  refine va_get (ci := 2) (v := .ref (d 23)) hx hb hts iX2 hown hK hP 2 rfl rfl 3 (by decide) (hts _ w_153) (fun _ h9 => h9) rfl dX2_add_5 ?_
  refine va_alen (v := nI (N.2.2.2 23)) hx hb hK hP 14 1 rfl rfl rfl dX2_add_8 ?_
  refine lv_icmp_lt (tgt := 56) hx hb dX2_add_9 (by decide) (fun c_9 => ?_) (fun c_9 => ?_)
  · refine lv_aload_n hx hb dX2_add_56 rfl (lv_at hl 0 rfl) ?_
    refine va_get (ci := 2) (v := .int (N.1 24)) hx hb hts iX2 hown hK hP 2 rfl rfl 4 (by decide) (hts _ w_154) (fun _ h9 => h9) rfl dX2_add_57 ?_
    refine lv_aload_n hx hb dX2_add_60 rfl (lv_at hl 0 rfl) ?_
    refine va_get (ci := 2) (v := .ref (d 23)) hx hb hts iX2 hown hK hP 2 rfl rfl 3 (by decide) (hts _ w_153) (fun _ h9 => h9) rfl dX2_add_61 ?_
    refine va_alen (v := nI (N.2.2.2 23)) hx hb hK hP 14 1 rfl rfl rfl dX2_add_64 ?_
    refine za_icmp_ge (tgt := 92) hx hb dX2_add_65 (by decide) (fun c_65 => ?_) (fun c_65 => ?_)
    · exact absurd c_9 c_65
    · refine lv_aload_n hx hb dX2_add_68 rfl (lv_at hl 0 rfl) ?_
      refine va_get (ci := 2) (v := .int (N.1 24)) hx hb hts iX2 hown hK hP 2 rfl rfl 4 (by decide) (hts _ w_154) (fun _ h9 => h9) rfl dX2_add_69 ?_
      refine lv_aload_n hx hb dX2_add_72 rfl (lv_at hl 0 rfl) ?_
      refine va_get (ci := 2) (v := .ref (d 22)) hx hb hts iX2 hown hK hP 2 rfl rfl 2 (by decide) (hts _ w_152) (fun _ h9 => h9) rfl dX2_add_73 ?_
      refine va_alen (v := nI (N.2.2.2 22)) hx hb hK hP 13 1 rfl rfl rfl dX2_add_76 ?_
      refine za_icmp_ge (tgt := 92) hx hb dX2_add_77 (by decide) (fun c_77 => ?_) (fun c_77 => ?_)
      · refine lv_iconst (v := (-1)) hx hb dX2_add_92 (by decide) ?_
        exact zc_rig hQ hx hb hr hlocks hK hP hD hS hc rfl (by simp [zk_addN, zc_addN, zc_grow3, zc_named, zk_noroom, zq_upd, c_9, c_65, c_77]) (by simp [zk_addN, zc_addN, zc_grow3, zc_named, zk_noroom, zq_upd, c_9, c_65, c_77]) dX2_add_93
      · refine lv_aload_n hx hb dX2_add_80 rfl (lv_at hl 0 rfl) ?_
        refine va_get (ci := 2) (v := .int (N.1 24)) hx hb hts iX2 hown hK hP 2 rfl rfl 4 (by decide) (hts _ w_154) (fun _ h9 => h9) rfl dX2_add_81 ?_
        refine lv_aload_n hx hb dX2_add_84 rfl (lv_at hl 0 rfl) ?_
        refine va_get (ci := 2) (v := .ref (d 21)) hx hb hts iX2 hown hK hP 2 rfl rfl 1 (by decide) (hts _ w_151) (fun _ h9 => h9) rfl dX2_add_85 ?_
        refine va_alen (v := nI (N.2.2.2 21)) hx hb hK hP 12 1 rfl rfl rfl dX2_add_88 ?_
        refine lv_icmp_lt (tgt := 94) hx hb dX2_add_89 (by decide) (fun c_89 => ?_) (fun c_89 => ?_)
        · refine lv_aload_n hx hb dX2_add_94 rfl (lv_at hl 0 rfl) ?_
          refine va_get (ci := 2) (v := .ref (d 23)) hx hb hts iX2 hown hK hP 2 rfl rfl 3 (by decide) (hts _ w_153) (fun _ h9 => h9) rfl dX2_add_95 ?_
          refine lv_aload_n hx hb dX2_add_98 rfl (lv_at hl 0 rfl) ?_
          refine va_get (ci := 2) (v := .int (N.1 24)) hx hb hts iX2 hown hK hP 2 rfl rfl 4 (by decide) (hts _ w_154) (fun _ h9 => h9) rfl dX2_add_99 ?_
          refine lv_iload_n hx hb dX2_add_102 rfl (lv_at hl 1 rfl) ?_
          refine va_iast (f := N.2.1 23) hx hb hK hP hD hS 14 1 rfl rfl (by obtain ⟨k9, t9, k1, k2, k3, k4, k5⟩ := hI0.2.2.2.2.1; exact zk_inn (z := k9) k1 c_65 (by omega) (show N.2.2.2 23 ≤ 400000 by omega)) dX2_add_103 (fun H locs hP hD hS => ?_)
          have hP := zc_pa23 (X := N) hP
          have hD := zc_da23 (X := N) hD
          have hc : zb_c N (zc_a N 23 (N.1 24) k) cells slots := hc
          refine lv_aload_n hx hb dX2_add_104 rfl (lv_at hl 0 rfl) ?_
          refine va_get (ci := 2) (v := .ref (d 22)) hx hb hts iX2 hown hK hP 2 rfl rfl 2 (by decide) (hts _ w_152) (fun _ h9 => h9) rfl dX2_add_105 ?_
          refine lv_aload_n hx hb dX2_add_108 rfl (lv_at hl 0 rfl) ?_
          refine va_get (ci := 2) (v := .int (N.1 24)) hx hb hts iX2 hown hK hP 2 rfl rfl 4 (by decide) (hts _ w_154) (fun _ h9 => h9) rfl dX2_add_109 ?_
          refine lv_iload_n hx hb dX2_add_112 rfl (lv_at hl 2 rfl) ?_
          refine va_iast (f := (zc_a N 23 (N.1 24) k).2.1 22) hx hb hK hP hD hS 13 1 rfl rfl (by obtain ⟨k9, t9, k1, k2, k3, k4, k5⟩ := hI0.2.2.2.2.1; exact zk_inn (z := k9) k1 c_77 (by omega) (show N.2.2.2 22 ≤ 400000 by omega)) dX2_add_113 (fun H locs hP hD hS => ?_)
          have hP := zc_pa22 (X := zc_a N 23 (N.1 24) k) hP
          have hD := zc_da22 (X := zc_a N 23 (N.1 24) k) hD
          have hc : zb_c N (zc_a (zc_a N 23 (N.1 24) k) 22 (N.1 24) hs) cells slots := hc
          refine lv_aload_n hx hb dX2_add_114 rfl (lv_at hl 0 rfl) ?_
          refine va_get (ci := 2) (v := .ref (d 21)) hx hb hts iX2 hown hK hP 2 rfl rfl 1 (by decide) (hts _ w_151) (fun _ h9 => h9) rfl dX2_add_115 ?_
          refine lv_aload_n hx hb dX2_add_118 rfl (lv_at hl 0 rfl) ?_
          refine va_get (ci := 2) (v := .int (N.1 24)) hx hb hts iX2 hown hK hP 2 rfl rfl 4 (by decide) (hts _ w_154) (fun _ h9 => h9) rfl dX2_add_119 ?_
          refine lv_aload_n hx hb dX2_add_122 rfl (lv_at hl 0 rfl) ?_
          refine va_get (ci := 2) (v := .ref (d 20)) hx hb hts iX2 hown hK hP 2 rfl rfl 0 (by decide) (hts _ w_150) (fun _ h9 => h9) rfl dX2_add_123 ?_
          refine lv_iload_n hx hb dX2_add_126 rfl (lv_at hl 2 rfl) ?_
          refine lv_sipush (v := 511) hx hb dX2_add_127 (by decide) ?_
          refine lv_iand hx hb dX2_add_130 ?_
          refine va_iald (f := N.2.1 20) hx hb hK hP 11 1 rfl rfl (pk_andIn _ 9 (by decide) (by decide)) dX2_add_131 ?_
          refine va_iast (f := (zc_a (zc_a N 23 (N.1 24) k) 22 (N.1 24) hs).2.1 21) hx hb hK hP hD hS 12 1 rfl rfl (by obtain ⟨k9, t9, k1, k2, k3, k4, k5⟩ := hI0.2.2.2.2.1; exact zk_inn (z := k9) k1 c_89 (by omega) (show N.2.2.2 21 ≤ 400000 by omega)) dX2_add_132 (fun H locs hP hD hS => ?_)
          have hP := zc_pa21 (X := zc_a (zc_a N 23 (N.1 24) k) 22 (N.1 24) hs) hP
          have hD := zc_da21 (X := zc_a (zc_a N 23 (N.1 24) k) 22 (N.1 24) hs) hD
          have hc : zb_c N (zc_a (zc_a (zc_a N 23 (N.1 24) k) 22 (N.1 24) hs) 21 (N.1 24) (N.2.1 20 (hs &&& 511).toNatClampNeg)) cells slots := hc
          refine lv_aload_n hx hb dX2_add_133 rfl (lv_at hl 0 rfl) ?_
          refine va_get (ci := 2) (v := .ref (d 20)) hx hb hts iX2 hown hK hP 2 rfl rfl 0 (by decide) (hts _ w_150) (fun _ h9 => h9) rfl dX2_add_134 ?_
          refine lv_iload_n hx hb dX2_add_137 rfl (lv_at hl 2 rfl) ?_
          refine lv_sipush (v := 511) hx hb dX2_add_138 (by decide) ?_
          refine lv_iand hx hb dX2_add_141 ?_
          refine lv_aload_n hx hb dX2_add_142 rfl (lv_at hl 0 rfl) ?_
          refine va_get (ci := 2) (v := .int (N.1 24)) hx hb hts iX2 hown hK hP 2 rfl rfl 4 (by decide) (hts _ w_154) (fun _ h9 => h9) rfl dX2_add_143 ?_
          refine va_iast (f := (zc_a (zc_a (zc_a N 23 (N.1 24) k) 22 (N.1 24) hs) 21 (N.1 24) (N.2.1 20 (hs &&& 511).toNatClampNeg)).2.1 20) hx hb hK hP hD hS 11 1 rfl rfl (pk_andIn _ 9 (by decide) (by decide)) dX2_add_146 (fun H locs hP hD hS => ?_)
          have hP := zc_pa20 (X := zc_a (zc_a (zc_a N 23 (N.1 24) k) 22 (N.1 24) hs) 21 (N.1 24) (N.2.1 20 (hs &&& 511).toNatClampNeg)) hP
          have hD := zc_da20 (X := zc_a (zc_a (zc_a N 23 (N.1 24) k) 22 (N.1 24) hs) 21 (N.1 24) (N.2.1 20 (hs &&& 511).toNatClampNeg)) hD
          have hc : zb_c N (zc_a (zc_a (zc_a (zc_a N 23 (N.1 24) k) 22 (N.1 24) hs) 21 (N.1 24) (N.2.1 20 (hs &&& 511).toNatClampNeg)) 20 (hs &&& 511) (N.1 24)) cells slots := hc
          refine lv_aload_n hx hb dX2_add_147 rfl (lv_at hl 0 rfl) ?_
          refine lv_dup hx hb dX2_add_148 rfl ?_
          refine va_get (ci := 2) (v := .int (N.1 24)) hx hb hts iX2 hown hK hP 2 rfl rfl 4 (by decide) (hts _ w_154) (fun _ h9 => h9) rfl dX2_add_149 ?_
          refine lv_iconst (v := 1) hx hb dX2_add_152 (by decide) ?_
          refine lv_iadd hx hb dX2_add_153 ?_
          refine va_put (ci := 2) (fs := zc_f2 o d (zc_a (zc_a (zc_a (zc_a N 23 (N.1 24) k) 22 (N.1 24) hs) 21 (N.1 24) (N.2.1 20 (hs &&& 511).toNatClampNeg)) 20 (hs &&& 511) (N.1 24)).1) (v := .int ((N.1 24) + 1)) hx hb hts iX2 tyX2 tyX2_ok nmX2 hown hK hP hD hS 2 rfl rfl 4 (by decide) (hts _ w_154) (fun _ h9 => h9) rfl (tyX2_ok 4 (by decide)) rfl rfl (Nat.le_of_ble_eq_true rfl) dX2_add_154 (fun H locs hP hD hS => ?_)
          have hP := zc_pf24 (X := zc_a (zc_a (zc_a (zc_a N 23 (N.1 24) k) 22 (N.1 24) hs) 21 (N.1 24) (N.2.1 20 (hs &&& 511).toNatClampNeg)) 20 (hs &&& 511) (N.1 24)) hP
          have hD := zc_df24 (X := zc_a (zc_a (zc_a (zc_a N 23 (N.1 24) k) 22 (N.1 24) hs) 21 (N.1 24) (N.2.1 20 (hs &&& 511).toNatClampNeg)) 20 (hs &&& 511) (N.1 24)) hD
          have hc : zb_c N (zc_s (zc_a (zc_a (zc_a (zc_a N 23 (N.1 24) k) 22 (N.1 24) hs) 21 (N.1 24) (N.2.1 20 (hs &&& 511).toNatClampNeg)) 20 (hs &&& 511) (N.1 24)) 24 ((N.1 24) + 1)) cells slots := hc
          refine lv_aload_n hx hb dX2_add_157 rfl (lv_at hl 0 rfl) ?_
          refine va_get (ci := 2) (v := .int ((N.1 24) + 1)) hx hb hts iX2 hown hK hP 2 rfl rfl 4 (by decide) (hts _ w_154) (fun _ h9 => h9) rfl dX2_add_158 ?_
          refine lv_iconst (v := 1) hx hb dX2_add_161 (by decide) ?_
          refine lv_isub hx hb dX2_add_162 ?_
          exact zc_rig hQ hx hb hr hlocks hK hP hD hS hc rfl (by simp [zk_addN, zc_addN, zc_grow3, zc_named, zk_noroom, zq_upd, c_9, c_65, c_77, c_89]) (by simp [zk_addN, zc_addN, zc_grow3, zc_named, zk_noroom, zq_upd, c_9, c_65, c_77, c_89]) dX2_add_163
        · refine lv_iconst (v := (-1)) hx hb dX2_add_92 (by decide) ?_
          exact zc_rig hQ hx hb hr hlocks hK hP hD hS hc rfl (by simp [zk_addN, zc_addN, zc_grow3, zc_named, zk_noroom, zq_upd, c_9, c_65, c_77, c_89]) (by simp [zk_addN, zc_addN, zc_grow3, zc_named, zk_noroom, zq_upd, c_9, c_65, c_77, c_89]) dX2_add_93
  · refine lv_aload_n hx hb dX2_add_12 rfl (lv_at hl 0 rfl) ?_
    refine va_get (ci := 2) (v := .ref (d 23)) hx hb hts iX2 hown hK hP 2 rfl rfl 3 (by decide) (hts _ w_153) (fun _ h9 => h9) rfl dX2_add_13 ?_
    refine va_alen (v := nI (N.2.2.2 23)) hx hb hK hP 14 1 rfl rfl rfl dX2_add_16 ?_
    refine lv_iconst (v := 2) hx hb dX2_add_17 (by decide) ?_
    refine lv_imul hx hb dX2_add_18 ?_
    refine za_top (v := nI (2 * N.2.2.2 23)) (z_dbl _) ?_
    refine lv_istore_n (lv' := [(3, .int (nI (2 * N.2.2.2 23))), (0, .ref (o 2)), (1, .int k), (2, .int hs)]) hx hb dX2_add_19 rfl hl (by decide) rfl (fun ls hl => ?_)
    refine lv_aload_n hx hb dX2_add_20 rfl (lv_at hl 1 rfl) ?_
    refine lv_aload_n hx hb dX2_add_21 rfl (lv_at hl 1 rfl) ?_
    refine va_get (ci := 2) (v := .ref (d 21)) hx hb hts iX2 hown hK hP 2 rfl rfl 1 (by decide) (hts _ w_151) (fun _ h9 => h9) rfl dX2_add_22 ?_
    refine lv_iload_n hx hb dX2_add_25 rfl (lv_at hl 0 rfl) ?_
    refine za_cr (wc := [(d 21, .inl (g.2.2.1, N.2.2.2 21, .inl (N.2.1 21)))]) (wr := [(o 0, .inr (0, zc_f0 o d N.1)), (o 1, .inr (1, zc_f1 o d N.1)), (o 2, .inr (2, zc_f2 o d N.1)), (o 3, .inr (3, zc_f3 o d N.1)), (o 4, .inr (4, zc_f4 o d N.1)), (o 5, .inr (5, zc_f5 o d N.1)), (o 6, .inr (6, zc_f6 o d N.1)), (o 7, .inr (7, zc_f7 o d N.1)), (o 8, .inr (8, zc_f8 o d N.1)), (d 0, .inl (g.2.1, N.2.2.2 0, .inl (N.2.1 0))), (d 11, .inl (g.2.2.2.1, 16, .inr (.inl N.2.2.1))), (d 20, .inl (g.2.2.1, 512, .inl (N.2.1 20))), (d 22, .inl (g.2.2.1, N.2.2.2 22, .inl (N.2.1 22))), (d 23, .inl (g.2.2.1, N.2.2.2 23, .inl (N.2.1 23))), (d 60, .inl (g.2.1, N.2.2.2 60, .inl (N.2.1 60))), (d 70, .inl (g.2.2.1, N.2.2.2 70, .inl (N.2.1 70)))]) C hP hD hS [12] [0, 1, 2, 3, 4, 5, 6, 7, 8, 9, 10, 11, 13, 14, 15, 16] rfl rfl (by decide) (by decide) (za_runS C hP hD hS [12] rfl (by decide) rfl (kJ7_copyI l g E (d 21) (N.2.2.2 21) (2 * N.2.2.2 23) (N.2.1 21) (by omega) (by omega)) w_543 mJ7_copyOf_59c91 rfl hl.1 rfl (Nat.le_of_ble_eq_true rfl) dX2_add_26 ⟨Nat.le_of_ble_eq_true rfl, Nat.le_of_ble_eq_true rfl⟩ (hc.one (n := N.2.2.2 23) (by have := (zc_cap3 hI0 hk c_9).1; omega) hl23.1)) (fun _ q1 H locs _ hP hD hS => ?_)
    have hP := zc_pc21 (X := N) (d := d) hP
    have hD := zc_dc21 (X := N) (d := d) hD
    refine va_put (ci := 2) (fs := zc_f2 o d N.1) (v := .ref q1) hx hb hts iX2 tyX2 tyX2_ok nmX2 hown hK hP hD hS 2 rfl rfl 1 (by decide) (hts _ w_151) (fun _ h9 => h9) rfl (tyX2_ok 1 (by decide)) rfl rfl (Nat.le_of_ble_eq_true rfl) dX2_add_29 (fun H locs hP hD hS => ?_)
    have hP := zc_pg21 (X := N) (d := d) hP
    have hD := zc_dg21 (X := N) (d := d) hD
    have hc := hc.grow21 (n := 2 * N.2.2.2 23) (by rw [he21]) (by omega)
    revert hc
    generalize cells + 1 = cells, slots + (2 * N.2.2.2 23) = slots
    intro hc
    refine lv_aload_n hx hb dX2_add_32 rfl (lv_at hl 1 rfl) ?_
    refine lv_aload_n hx hb dX2_add_33 rfl (lv_at hl 1 rfl) ?_
    refine va_get (ci := 2) (v := .ref ((zc_ad d 21 q1) 22)) hx hb hts iX2 hown hK hP 2 rfl rfl 2 (by decide) (hts _ w_152) (fun _ h9 => h9) rfl dX2_add_34 ?_
    refine lv_iload_n hx hb dX2_add_37 rfl (lv_at hl 0 rfl) ?_
    refine za_cr (wc := [((zc_ad d 21 q1) 22, .inl (g.2.2.1, (zc_g N 21 (2 * N.2.2.2 23)).2.2.2 22, .inl ((zc_g N 21 (2 * N.2.2.2 23)).2.1 22)))]) (wr := [(o 0, .inr (0, zc_f0 o (zc_ad d 21 q1) (zc_g N 21 (2 * N.2.2.2 23)).1)), (o 1, .inr (1, zc_f1 o (zc_ad d 21 q1) (zc_g N 21 (2 * N.2.2.2 23)).1)), (o 2, .inr (2, zc_f2 o (zc_ad d 21 q1) (zc_g N 21 (2 * N.2.2.2 23)).1)), (o 3, .inr (3, zc_f3 o (zc_ad d 21 q1) (zc_g N 21 (2 * N.2.2.2 23)).1)), (o 4, .inr (4, zc_f4 o (zc_ad d 21 q1) (zc_g N 21 (2 * N.2.2.2 23)).1)), (o 5, .inr (5, zc_f5 o (zc_ad d 21 q1) (zc_g N 21 (2 * N.2.2.2 23)).1)), (o 6, .inr (6, zc_f6 o (zc_ad d 21 q1) (zc_g N 21 (2 * N.2.2.2 23)).1)), (o 7, .inr (7, zc_f7 o (zc_ad d 21 q1) (zc_g N 21 (2 * N.2.2.2 23)).1)), (o 8, .inr (8, zc_f8 o (zc_ad d 21 q1) (zc_g N 21 (2 * N.2.2.2 23)).1)), ((zc_ad d 21 q1) 0, .inl (g.2.1, (zc_g N 21 (2 * N.2.2.2 23)).2.2.2 0, .inl ((zc_g N 21 (2 * N.2.2.2 23)).2.1 0))), ((zc_ad d 21 q1) 11, .inl (g.2.2.2.1, 16, .inr (.inl (zc_g N 21 (2 * N.2.2.2 23)).2.2.1))), ((zc_ad d 21 q1) 20, .inl (g.2.2.1, 512, .inl ((zc_g N 21 (2 * N.2.2.2 23)).2.1 20))), ((zc_ad d 21 q1) 21, .inl (g.2.2.1, (zc_g N 21 (2 * N.2.2.2 23)).2.2.2 21, .inl ((zc_g N 21 (2 * N.2.2.2 23)).2.1 21))), ((zc_ad d 21 q1) 23, .inl (g.2.2.1, (zc_g N 21 (2 * N.2.2.2 23)).2.2.2 23, .inl ((zc_g N 21 (2 * N.2.2.2 23)).2.1 23))), ((zc_ad d 21 q1) 60, .inl (g.2.1, (zc_g N 21 (2 * N.2.2.2 23)).2.2.2 60, .inl ((zc_g N 21 (2 * N.2.2.2 23)).2.1 60))), ((zc_ad d 21 q1) 70, .inl (g.2.2.1, (zc_g N 21 (2 * N.2.2.2 23)).2.2.2 70, .inl ((zc_g N 21 (2 * N.2.2.2 23)).2.1 70)))]) C hP hD hS [13] [0, 1, 2, 3, 4, 5, 6, 7, 8, 9, 10, 11, 12, 14, 15, 16] rfl rfl (by decide) (by decide) (za_runS C hP hD hS [13] rfl (by decide) rfl (kJ7_copyI l g E ((zc_ad d 21 q1) 22) (N.2.2.2 22) (2 * N.2.2.2 23) (N.2.1 22) (by omega) (by omega)) w_543 mJ7_copyOf_59c91 rfl hl.1 rfl (Nat.le_of_ble_eq_true rfl) dX2_add_38 ⟨Nat.le_of_ble_eq_true rfl, Nat.le_of_ble_eq_true rfl⟩ (hc.one (n := N.2.2.2 23) (by have := (zc_cap3 hI0 hk c_9).1; have := zc_L_21 hI0; omega) hl23.1)) (fun _ q2 H locs _ hP hD hS => ?_)
    have hP := zc_pc22 (X := zc_g N 21 (2 * N.2.2.2 23)) (d := zc_ad d 21 q1) hP
    have hD := zc_dc22 (X := zc_g N 21 (2 * N.2.2.2 23)) (d := zc_ad d 21 q1) hD
    refine va_put (ci := 2) (fs := zc_f2 o (zc_ad d 21 q1) (zc_g N 21 (2 * N.2.2.2 23)).1) (v := .ref q2) hx hb hts iX2 tyX2 tyX2_ok nmX2 hown hK hP hD hS 2 rfl rfl 2 (by decide) (hts _ w_152) (fun _ h9 => h9) rfl (tyX2_ok 2 (by decide)) rfl rfl (Nat.le_of_ble_eq_true rfl) dX2_add_41 (fun H locs hP hD hS => ?_)
    have hP := zc_pg22 (X := zc_g N 21 (2 * N.2.2.2 23)) (d := zc_ad d 21 q1) hP
    have hD := zc_dg22 (X := zc_g N 21 (2 * N.2.2.2 23)) (d := zc_ad d 21 q1) hD
    have hc := hc.grow22 (n := 2 * N.2.2.2 23) (by show 2 * N.2.2.2 23 = 2 * N.2.2.2 22; rw [he22]) (by show 1 ≤ N.2.2.2 22; omega)
    revert hc
    generalize cells + 1 = cells, slots + (2 * N.2.2.2 23) = slots
    intro hc
    refine lv_aload_n hx hb dX2_add_44 rfl (lv_at hl 1 rfl) ?_
    refine lv_aload_n hx hb dX2_add_45 rfl (lv_at hl 1 rfl) ?_
    refine va_get (ci := 2) (v := .ref ((zc_ad (zc_ad d 21 q1) 22 q2) 23)) hx hb hts iX2 hown hK hP 2 rfl rfl 3 (by decide) (hts _ w_153) (fun _ h9 => h9) rfl dX2_add_46 ?_
    refine lv_iload_n hx hb dX2_add_49 rfl (lv_at hl 0 rfl) ?_
    refine za_cr (wc := [((zc_ad (zc_ad d 21 q1) 22 q2) 23, .inl (g.2.2.1, (zc_g (zc_g N 21 (2 * N.2.2.2 23)) 22 (2 * N.2.2.2 23)).2.2.2 23, .inl ((zc_g (zc_g N 21 (2 * N.2.2.2 23)) 22 (2 * N.2.2.2 23)).2.1 23)))]) (wr := [(o 0, .inr (0, zc_f0 o (zc_ad (zc_ad d 21 q1) 22 q2) (zc_g (zc_g N 21 (2 * N.2.2.2 23)) 22 (2 * N.2.2.2 23)).1)), (o 1, .inr (1, zc_f1 o (zc_ad (zc_ad d 21 q1) 22 q2) (zc_g (zc_g N 21 (2 * N.2.2.2 23)) 22 (2 * N.2.2.2 23)).1)), (o 2, .inr (2, zc_f2 o (zc_ad (zc_ad d 21 q1) 22 q2) (zc_g (zc_g N 21 (2 * N.2.2.2 23)) 22 (2 * N.2.2.2 23)).1)), (o 3, .inr (3, zc_f3 o (zc_ad (zc_ad d 21 q1) 22 q2) (zc_g (zc_g N 21 (2 * N.2.2.2 23)) 22 (2 * N.2.2.2 23)).1)), (o 4, .inr (4, zc_f4 o (zc_ad (zc_ad d 21 q1) 22 q2) (zc_g (zc_g N 21 (2 * N.2.2.2 23)) 22 (2 * N.2.2.2 23)).1)), (o 5, .inr (5, zc_f5 o (zc_ad (zc_ad d 21 q1) 22 q2) (zc_g (zc_g N 21 (2 * N.2.2.2 23)) 22 (2 * N.2.2.2 23)).1)), (o 6, .inr (6, zc_f6 o (zc_ad (zc_ad d 21 q1) 22 q2) (zc_g (zc_g N 21 (2 * N.2.2.2 23)) 22 (2 * N.2.2.2 23)).1)), (o 7, .inr (7, zc_f7 o (zc_ad (zc_ad d 21 q1) 22 q2) (zc_g (zc_g N 21 (2 * N.2.2.2 23)) 22 (2 * N.2.2.2 23)).1)), (o 8, .inr (8, zc_f8 o (zc_ad (zc_ad d 21 q1) 22 q2) (zc_g (zc_g N 21 (2 * N.2.2.2 23)) 22 (2 * N.2.2.2 23)).1)), ((zc_ad (zc_ad d 21 q1) 22 q2) 0, .inl (g.2.1, (zc_g (zc_g N 21 (2 * N.2.2.2 23)) 22 (2 * N.2.2.2 23)).2.2.2 0, .inl ((zc_g (zc_g N 21 (2 * N.2.2.2 23)) 22 (2 * N.2.2.2 23)).2.1 0))), ((zc_ad (zc_ad d 21 q1) 22 q2) 11, .inl (g.2.2.2.1, 16, .inr (.inl (zc_g (zc_g N 21 (2 * N.2.2.2 23)) 22 (2 * N.2.2.2 23)).2.2.1))), ((zc_ad (zc_ad d 21 q1) 22 q2) 20, .inl (g.2.2.1, 512, .inl ((zc_g (zc_g N 21 (2 * N.2.2.2 23)) 22 (2 * N.2.2.2 23)).2.1 20))), ((zc_ad (zc_ad d 21 q1) 22 q2) 21, .inl (g.2.2.1, (zc_g (zc_g N 21 (2 * N.2.2.2 23)) 22 (2 * N.2.2.2 23)).2.2.2 21, .inl ((zc_g (zc_g N 21 (2 * N.2.2.2 23)) 22 (2 * N.2.2.2 23)).2.1 21))), ((zc_ad (zc_ad d 21 q1) 22 q2) 22, .inl (g.2.2.1, (zc_g (zc_g N 21 (2 * N.2.2.2 23)) 22 (2 * N.2.2.2 23)).2.2.2 22, .inl ((zc_g (zc_g N 21 (2 * N.2.2.2 23)) 22 (2 * N.2.2.2 23)).2.1 22))), ((zc_ad (zc_ad d 21 q1) 22 q2) 60, .inl (g.2.1, (zc_g (zc_g N 21 (2 * N.2.2.2 23)) 22 (2 * N.2.2.2 23)).2.2.2 60, .inl ((zc_g (zc_g N 21 (2 * N.2.2.2 23)) 22 (2 * N.2.2.2 23)).2.1 60))), ((zc_ad (zc_ad d 21 q1) 22 q2) 70, .inl (g.2.2.1, (zc_g (zc_g N 21 (2 * N.2.2.2 23)) 22 (2 * N.2.2.2 23)).2.2.2 70, .inl ((zc_g (zc_g N 21 (2 * N.2.2.2 23)) 22 (2 * N.2.2.2 23)).2.1 70)))]) C hP hD hS [14] [0, 1, 2, 3, 4, 5, 6, 7, 8, 9, 10, 11, 12, 13, 15, 16] rfl rfl (by decide) (by decide) (za_runS C hP hD hS [14] rfl (by decide) rfl (kJ7_copyI l g E ((zc_ad (zc_ad d 21 q1) 22 q2) 23) (N.2.2.2 23) (2 * N.2.2.2 23) (N.2.1 23) (by omega) (by omega)) w_543 mJ7_copyOf_59c91 rfl hl.1 rfl (Nat.le_of_ble_eq_true rfl) dX2_add_50 ⟨Nat.le_of_ble_eq_true rfl, Nat.le_of_ble_eq_true rfl⟩ (hc.one (n := N.2.2.2 23) (by have := (zc_cap3 hI0 hk c_9).1; have := zc_L_22 hI0; omega) hl23.1)) (fun _ q3 H locs _ hP hD hS => ?_)
    have hP := zc_pc23 (X := zc_g (zc_g N 21 (2 * N.2.2.2 23)) 22 (2 * N.2.2.2 23)) (d := zc_ad (zc_ad d 21 q1) 22 q2) hP
    have hD := zc_dc23 (X := zc_g (zc_g N 21 (2 * N.2.2.2 23)) 22 (2 * N.2.2.2 23)) (d := zc_ad (zc_ad d 21 q1) 22 q2) hD
    refine va_put (ci := 2) (fs := zc_f2 o (zc_ad (zc_ad d 21 q1) 22 q2) (zc_g (zc_g N 21 (2 * N.2.2.2 23)) 22 (2 * N.2.2.2 23)).1) (v := .ref q3) hx hb hts iX2 tyX2 tyX2_ok nmX2 hown hK hP hD hS 2 rfl rfl 3 (by decide) (hts _ w_153) (fun _ h9 => h9) rfl (tyX2_ok 3 (by decide)) rfl rfl (Nat.le_of_ble_eq_true rfl) dX2_add_53 (fun H locs hP hD hS => ?_)
    have hP := zc_pg23 (X := zc_g (zc_g N 21 (2 * N.2.2.2 23)) 22 (2 * N.2.2.2 23)) (d := zc_ad (zc_ad d 21 q1) 22 q2) hP
    have hD := zc_dg23 (X := zc_g (zc_g N 21 (2 * N.2.2.2 23)) 22 (2 * N.2.2.2 23)) (d := zc_ad (zc_ad d 21 q1) 22 q2) hD
    have hc := hc.grow23 (n := 2 * N.2.2.2 23) rfl (by show 1 ≤ N.2.2.2 23; omega)
    revert hc
    generalize cells + 1 = cells, slots + (2 * N.2.2.2 23) = slots
    intro hc
    refine lv_aload_n hx hb dX2_add_56 rfl (lv_at hl 1 rfl) ?_
    refine va_get (ci := 2) (v := .int (N.1 24)) hx hb hts iX2 hown hK hP 2 rfl rfl 4 (by decide) (hts _ w_154) (fun _ h9 => h9) rfl dX2_add_57 ?_
    refine lv_aload_n hx hb dX2_add_60 rfl (lv_at hl 1 rfl) ?_
    refine va_get (ci := 2) (v := .ref ((zc_ad (zc_ad (zc_ad d 21 q1) 22 q2) 23 q3) 23)) hx hb hts iX2 hown hK hP 2 rfl rfl 3 (by decide) (hts _ w_153) (fun _ h9 => h9) rfl dX2_add_61 ?_
    refine va_alen (v := nI (2 * N.2.2.2 23)) hx hb hK hP 14 1 rfl rfl rfl dX2_add_64 ?_
    refine za_icmp_ge (tgt := 92) hx hb dX2_add_65 (by decide) (fun c_65 => ?_) (fun c_65 => ?_)
    · refine lv_iconst (v := (-1)) hx hb dX2_add_92 (by decide) ?_
      exact zc_rig hQ hx hb hr hlocks hK hP hD hS hc rfl (by simp [zk_addN, zc_addN, zc_grow3, zc_named, zk_noroom, zq_upd, c_9, c_65]) (by simp [zk_addN, zc_addN, zc_grow3, zc_named, zk_noroom, zq_upd, c_9, c_65]) dX2_add_93
    · refine lv_aload_n hx hb dX2_add_68 rfl (lv_at hl 1 rfl) ?_
      refine va_get (ci := 2) (v := .int (N.1 24)) hx hb hts iX2 hown hK hP 2 rfl rfl 4 (by decide) (hts _ w_154) (fun _ h9 => h9) rfl dX2_add_69 ?_
      refine lv_aload_n hx hb dX2_add_72 rfl (lv_at hl 1 rfl) ?_
      refine va_get (ci := 2) (v := .ref ((zc_ad (zc_ad (zc_ad d 21 q1) 22 q2) 23 q3) 22)) hx hb hts iX2 hown hK hP 2 rfl rfl 2 (by decide) (hts _ w_152) (fun _ h9 => h9) rfl dX2_add_73 ?_
      refine va_alen (v := nI (2 * N.2.2.2 23)) hx hb hK hP 13 1 rfl rfl rfl dX2_add_76 ?_
      refine za_icmp_ge (tgt := 92) hx hb dX2_add_77 (by decide) (fun c_77 => ?_) (fun c_77 => ?_)
      · exact absurd c_65 c_77
      · refine lv_aload_n hx hb dX2_add_80 rfl (lv_at hl 1 rfl) ?_
        refine va_get (ci := 2) (v := .int (N.1 24)) hx hb hts iX2 hown hK hP 2 rfl rfl 4 (by decide) (hts _ w_154) (fun _ h9 => h9) rfl dX2_add_81 ?_
        refine lv_aload_n hx hb dX2_add_84 rfl (lv_at hl 1 rfl) ?_
        refine va_get (ci := 2) (v := .ref ((zc_ad (zc_ad (zc_ad d 21 q1) 22 q2) 23 q3) 21)) hx hb hts iX2 hown hK hP 2 rfl rfl 1 (by decide) (hts _ w_151) (fun _ h9 => h9) rfl dX2_add_85 ?_
        refine va_alen (v := nI (2 * N.2.2.2 23)) hx hb hK hP 12 1 rfl rfl rfl dX2_add_88 ?_
        refine lv_icmp_lt (tgt := 94) hx hb dX2_add_89 (by decide) (fun c_89 => ?_) (fun c_89 => ?_)
        · refine lv_aload_n hx hb dX2_add_94 rfl (lv_at hl 1 rfl) ?_
          refine va_get (ci := 2) (v := .ref ((zc_ad (zc_ad (zc_ad d 21 q1) 22 q2) 23 q3) 23)) hx hb hts iX2 hown hK hP 2 rfl rfl 3 (by decide) (hts _ w_153) (fun _ h9 => h9) rfl dX2_add_95 ?_
          refine lv_aload_n hx hb dX2_add_98 rfl (lv_at hl 1 rfl) ?_
          refine va_get (ci := 2) (v := .int (N.1 24)) hx hb hts iX2 hown hK hP 2 rfl rfl 4 (by decide) (hts _ w_154) (fun _ h9 => h9) rfl dX2_add_99 ?_
          refine lv_iload_n hx hb dX2_add_102 rfl (lv_at hl 2 rfl) ?_
          refine va_iast (f := (zc_g (zc_g (zc_g N 21 (2 * N.2.2.2 23)) 22 (2 * N.2.2.2 23)) 23 (2 * N.2.2.2 23)).2.1 23) hx hb hK hP hD hS 14 1 rfl rfl (by obtain ⟨k9, t9, k1, k2, k3, k4, k5⟩ := hI0.2.2.2.2.1; exact zk_inn (z := k9) k1 c_65 (by omega) (show 2 * N.2.2.2 23 ≤ 400000 by omega)) dX2_add_103 (fun H locs hP hD hS => ?_)
          have hP := zc_pa23 (X := zc_g (zc_g (zc_g N 21 (2 * N.2.2.2 23)) 22 (2 * N.2.2.2 23)) 23 (2 * N.2.2.2 23)) hP
          have hD := zc_da23 (X := zc_g (zc_g (zc_g N 21 (2 * N.2.2.2 23)) 22 (2 * N.2.2.2 23)) 23 (2 * N.2.2.2 23)) hD
          have hc : zb_c N (zc_a (zc_g (zc_g (zc_g N 21 (2 * N.2.2.2 23)) 22 (2 * N.2.2.2 23)) 23 (2 * N.2.2.2 23)) 23 (N.1 24) k) cells slots := hc
          refine lv_aload_n hx hb dX2_add_104 rfl (lv_at hl 1 rfl) ?_
          refine va_get (ci := 2) (v := .ref ((zc_ad (zc_ad (zc_ad d 21 q1) 22 q2) 23 q3) 22)) hx hb hts iX2 hown hK hP 2 rfl rfl 2 (by decide) (hts _ w_152) (fun _ h9 => h9) rfl dX2_add_105 ?_
          refine lv_aload_n hx hb dX2_add_108 rfl (lv_at hl 1 rfl) ?_
          refine va_get (ci := 2) (v := .int (N.1 24)) hx hb hts iX2 hown hK hP 2 rfl rfl 4 (by decide) (hts _ w_154) (fun _ h9 => h9) rfl dX2_add_109 ?_
          refine lv_iload_n hx hb dX2_add_112 rfl (lv_at hl 3 rfl) ?_
          refine va_iast (f := (zc_a (zc_g (zc_g (zc_g N 21 (2 * N.2.2.2 23)) 22 (2 * N.2.2.2 23)) 23 (2 * N.2.2.2 23)) 23 (N.1 24) k).2.1 22) hx hb hK hP hD hS 13 1 rfl rfl (by obtain ⟨k9, t9, k1, k2, k3, k4, k5⟩ := hI0.2.2.2.2.1; exact zk_inn (z := k9) k1 c_77 (by omega) (show 2 * N.2.2.2 23 ≤ 400000 by omega)) dX2_add_113 (fun H locs hP hD hS => ?_)
          have hP := zc_pa22 (X := zc_a (zc_g (zc_g (zc_g N 21 (2 * N.2.2.2 23)) 22 (2 * N.2.2.2 23)) 23 (2 * N.2.2.2 23)) 23 (N.1 24) k) hP
          have hD := zc_da22 (X := zc_a (zc_g (zc_g (zc_g N 21 (2 * N.2.2.2 23)) 22 (2 * N.2.2.2 23)) 23 (2 * N.2.2.2 23)) 23 (N.1 24) k) hD
          have hc : zb_c N (zc_a (zc_a (zc_g (zc_g (zc_g N 21 (2 * N.2.2.2 23)) 22 (2 * N.2.2.2 23)) 23 (2 * N.2.2.2 23)) 23 (N.1 24) k) 22 (N.1 24) hs) cells slots := hc
          refine lv_aload_n hx hb dX2_add_114 rfl (lv_at hl 1 rfl) ?_
          refine va_get (ci := 2) (v := .ref ((zc_ad (zc_ad (zc_ad d 21 q1) 22 q2) 23 q3) 21)) hx hb hts iX2 hown hK hP 2 rfl rfl 1 (by decide) (hts _ w_151) (fun _ h9 => h9) rfl dX2_add_115 ?_
          refine lv_aload_n hx hb dX2_add_118 rfl (lv_at hl 1 rfl) ?_
          refine va_get (ci := 2) (v := .int (N.1 24)) hx hb hts iX2 hown hK hP 2 rfl rfl 4 (by decide) (hts _ w_154) (fun _ h9 => h9) rfl dX2_add_119 ?_
          refine lv_aload_n hx hb dX2_add_122 rfl (lv_at hl 1 rfl) ?_
          refine va_get (ci := 2) (v := .ref ((zc_ad (zc_ad (zc_ad d 21 q1) 22 q2) 23 q3) 20)) hx hb hts iX2 hown hK hP 2 rfl rfl 0 (by decide) (hts _ w_150) (fun _ h9 => h9) rfl dX2_add_123 ?_
          refine lv_iload_n hx hb dX2_add_126 rfl (lv_at hl 3 rfl) ?_
          refine lv_sipush (v := 511) hx hb dX2_add_127 (by decide) ?_
          refine lv_iand hx hb dX2_add_130 ?_
          refine va_iald (f := N.2.1 20) hx hb hK hP 11 1 rfl rfl (pk_andIn _ 9 (by decide) (by decide)) dX2_add_131 ?_
          refine va_iast (f := (zc_a (zc_a (zc_g (zc_g (zc_g N 21 (2 * N.2.2.2 23)) 22 (2 * N.2.2.2 23)) 23 (2 * N.2.2.2 23)) 23 (N.1 24) k) 22 (N.1 24) hs).2.1 21) hx hb hK hP hD hS 12 1 rfl rfl (by obtain ⟨k9, t9, k1, k2, k3, k4, k5⟩ := hI0.2.2.2.2.1; exact zk_inn (z := k9) k1 c_89 (by omega) (show 2 * N.2.2.2 23 ≤ 400000 by omega)) dX2_add_132 (fun H locs hP hD hS => ?_)
          have hP := zc_pa21 (X := zc_a (zc_a (zc_g (zc_g (zc_g N 21 (2 * N.2.2.2 23)) 22 (2 * N.2.2.2 23)) 23 (2 * N.2.2.2 23)) 23 (N.1 24) k) 22 (N.1 24) hs) hP
          have hD := zc_da21 (X := zc_a (zc_a (zc_g (zc_g (zc_g N 21 (2 * N.2.2.2 23)) 22 (2 * N.2.2.2 23)) 23 (2 * N.2.2.2 23)) 23 (N.1 24) k) 22 (N.1 24) hs) hD
          have hc : zb_c N (zc_a (zc_a (zc_a (zc_g (zc_g (zc_g N 21 (2 * N.2.2.2 23)) 22 (2 * N.2.2.2 23)) 23 (2 * N.2.2.2 23)) 23 (N.1 24) k) 22 (N.1 24) hs) 21 (N.1 24) (N.2.1 20 (hs &&& 511).toNatClampNeg)) cells slots := hc
          refine lv_aload_n hx hb dX2_add_133 rfl (lv_at hl 1 rfl) ?_
          refine va_get (ci := 2) (v := .ref ((zc_ad (zc_ad (zc_ad d 21 q1) 22 q2) 23 q3) 20)) hx hb hts iX2 hown hK hP 2 rfl rfl 0 (by decide) (hts _ w_150) (fun _ h9 => h9) rfl dX2_add_134 ?_
          refine lv_iload_n hx hb dX2_add_137 rfl (lv_at hl 3 rfl) ?_
          refine lv_sipush (v := 511) hx hb dX2_add_138 (by decide) ?_
          refine lv_iand hx hb dX2_add_141 ?_
          refine lv_aload_n hx hb dX2_add_142 rfl (lv_at hl 1 rfl) ?_
          refine va_get (ci := 2) (v := .int (N.1 24)) hx hb hts iX2 hown hK hP 2 rfl rfl 4 (by decide) (hts _ w_154) (fun _ h9 => h9) rfl dX2_add_143 ?_
          refine va_iast (f := (zc_a (zc_a (zc_a (zc_g (zc_g (zc_g N 21 (2 * N.2.2.2 23)) 22 (2 * N.2.2.2 23)) 23 (2 * N.2.2.2 23)) 23 (N.1 24) k) 22 (N.1 24) hs) 21 (N.1 24) (N.2.1 20 (hs &&& 511).toNatClampNeg)).2.1 20) hx hb hK hP hD hS 11 1 rfl rfl (pk_andIn _ 9 (by decide) (by decide)) dX2_add_146 (fun H locs hP hD hS => ?_)
          have hP := zc_pa20 (X := zc_a (zc_a (zc_a (zc_g (zc_g (zc_g N 21 (2 * N.2.2.2 23)) 22 (2 * N.2.2.2 23)) 23 (2 * N.2.2.2 23)) 23 (N.1 24) k) 22 (N.1 24) hs) 21 (N.1 24) (N.2.1 20 (hs &&& 511).toNatClampNeg)) hP
          have hD := zc_da20 (X := zc_a (zc_a (zc_a (zc_g (zc_g (zc_g N 21 (2 * N.2.2.2 23)) 22 (2 * N.2.2.2 23)) 23 (2 * N.2.2.2 23)) 23 (N.1 24) k) 22 (N.1 24) hs) 21 (N.1 24) (N.2.1 20 (hs &&& 511).toNatClampNeg)) hD
          have hc : zb_c N (zc_a (zc_a (zc_a (zc_a (zc_g (zc_g (zc_g N 21 (2 * N.2.2.2 23)) 22 (2 * N.2.2.2 23)) 23 (2 * N.2.2.2 23)) 23 (N.1 24) k) 22 (N.1 24) hs) 21 (N.1 24) (N.2.1 20 (hs &&& 511).toNatClampNeg)) 20 (hs &&& 511) (N.1 24)) cells slots := hc
          refine lv_aload_n hx hb dX2_add_147 rfl (lv_at hl 1 rfl) ?_
          refine lv_dup hx hb dX2_add_148 rfl ?_
          refine va_get (ci := 2) (v := .int (N.1 24)) hx hb hts iX2 hown hK hP 2 rfl rfl 4 (by decide) (hts _ w_154) (fun _ h9 => h9) rfl dX2_add_149 ?_
          refine lv_iconst (v := 1) hx hb dX2_add_152 (by decide) ?_
          refine lv_iadd hx hb dX2_add_153 ?_
          refine va_put (ci := 2) (fs := zc_f2 o (zc_ad (zc_ad (zc_ad d 21 q1) 22 q2) 23 q3) (zc_a (zc_a (zc_a (zc_a (zc_g (zc_g (zc_g N 21 (2 * N.2.2.2 23)) 22 (2 * N.2.2.2 23)) 23 (2 * N.2.2.2 23)) 23 (N.1 24) k) 22 (N.1 24) hs) 21 (N.1 24) (N.2.1 20 (hs &&& 511).toNatClampNeg)) 20 (hs &&& 511) (N.1 24)).1) (v := .int ((N.1 24) + 1)) hx hb hts iX2 tyX2 tyX2_ok nmX2 hown hK hP hD hS 2 rfl rfl 4 (by decide) (hts _ w_154) (fun _ h9 => h9) rfl (tyX2_ok 4 (by decide)) rfl rfl (Nat.le_of_ble_eq_true rfl) dX2_add_154 (fun H locs hP hD hS => ?_)
          have hP := zc_pf24 (X := zc_a (zc_a (zc_a (zc_a (zc_g (zc_g (zc_g N 21 (2 * N.2.2.2 23)) 22 (2 * N.2.2.2 23)) 23 (2 * N.2.2.2 23)) 23 (N.1 24) k) 22 (N.1 24) hs) 21 (N.1 24) (N.2.1 20 (hs &&& 511).toNatClampNeg)) 20 (hs &&& 511) (N.1 24)) hP
          have hD := zc_df24 (X := zc_a (zc_a (zc_a (zc_a (zc_g (zc_g (zc_g N 21 (2 * N.2.2.2 23)) 22 (2 * N.2.2.2 23)) 23 (2 * N.2.2.2 23)) 23 (N.1 24) k) 22 (N.1 24) hs) 21 (N.1 24) (N.2.1 20 (hs &&& 511).toNatClampNeg)) 20 (hs &&& 511) (N.1 24)) hD
          have hc : zb_c N (zc_s (zc_a (zc_a (zc_a (zc_a (zc_g (zc_g (zc_g N 21 (2 * N.2.2.2 23)) 22 (2 * N.2.2.2 23)) 23 (2 * N.2.2.2 23)) 23 (N.1 24) k) 22 (N.1 24) hs) 21 (N.1 24) (N.2.1 20 (hs &&& 511).toNatClampNeg)) 20 (hs &&& 511) (N.1 24)) 24 ((N.1 24) + 1)) cells slots := hc
          refine lv_aload_n hx hb dX2_add_157 rfl (lv_at hl 1 rfl) ?_
          refine va_get (ci := 2) (v := .int ((N.1 24) + 1)) hx hb hts iX2 hown hK hP 2 rfl rfl 4 (by decide) (hts _ w_154) (fun _ h9 => h9) rfl dX2_add_158 ?_
          refine lv_iconst (v := 1) hx hb dX2_add_161 (by decide) ?_
          refine lv_isub hx hb dX2_add_162 ?_
          exact zc_rig hQ hx hb hr hlocks hK hP hD hS hc rfl (by simp [zk_addN, zc_addN, zc_grow3, zc_named, zk_noroom, zq_upd, c_9, c_65, c_77, c_89]) (by simp [zk_addN, zc_addN, zc_grow3, zc_named, zk_noroom, zq_upd, c_9, c_65, c_77, c_89]) dX2_add_163
        · exact absurd c_65 c_89
set_option maxHeartbeats 4000000 in
set_option maxRecDepth 100000 in
theorem kL_numberOf (l : Launch) (g : za_G) (E : za_E) (o d : Nat → Nat) (N : zc_N) (k hs : Int32) (hk : zc_K N) {p : Program} {e : Env} {s : State} {m : MethodId} {args : Array Value} {below : List Frame} {meth : Method} {co : Code} {A : Nat → Prop} {Q : State → Prop} (C : za_H p s m args co cX2_numberOf 9 RX2 g E A) (hQ : Q = MQ below (za_qi g (fun r (u : zc_N × (Nat → Nat)) => r = zk_number N k hs ∧ u.1 = zc_number N k hs) (fun u => zc_ws g o u.2 u.1) A) args s (zc_L (zc_number N k hs) - zc_L N) (2 * (zc_L (zc_number N k hs) - zc_L N)) A) (hr : meth.sig.returnType = (some .int)) (hlocks : meth.locks = false)  : ∀ (n_ : Nat) (j : Nat) (n : Int32), (j ≤ (N.1 24).toNatClampNeg) → (zk_found N k hs = zk_find N (zk_fact N k 9) (zk_fact N k 8) hs ((N.1 24).toNatClampNeg - j) n) → (N.1 24).toNatClampNeg - j < n_ → ∀ (cells slots : Nat) (H : Heap) (locs : List Loc) (ls : Array Slot), va_S A s.heap H locs → va_P g.1 vwCl (zc_ws g o d N) H → va_D A (zc_ws g o d N) → zb_c N N cells slots → zc_I N → lv_has ls 9 [(0, .ref (o 2)), (1, .ref (o 7)), (2, .int k), (3, .int hs), (4, .int (zk_fact N k 9)), (5, .int (zk_fact N k 8)), (6, .int n), (7, .int (nI j))] → W p l e (za_R 3 (zc_rc N) (zc_rs N)) s m args below meth co H locs cells slots Q (F0 m 33 ls []) := by
  obtain ⟨hx, hb, hml, hown, hts, hK, hA, hE⟩ := id C
  intro n_
  induction n_ with
  | zero => intro j n hj hf hm; exact absurd hm (Nat.not_lt_zero _)
  | succ n_ ih =>
    intro j n hj hf hm cells slots H locs ls hS hP hD hc hI hl
    have hK9 := z_clt (N.1 24)
    refine lv_iload hx hb dX2_numberOf_33 (lv_at hl 7 rfl) ?_
    refine lv_aload_n hx hb dX2_numberOf_35 rfl (lv_at hl 0 rfl) ?_
    refine va_get (ci := 2) (v := .int (N.1 24)) hx hb hts iX2 hown hK hP 2 rfl rfl 4 (by decide) (hts _ w_154) (fun _ h9 => h9) rfl dX2_numberOf_36 ?_
    refine za_icmp_ge (tgt := 139) hx hb dX2_numberOf_39 (by decide) (fun c_39 => ?_) (fun c_39 => ?_)
    · have hnf : zk_found N k hs < 0 := by
        rw [hf, zk_find_z (by rcases Nat.lt_or_ge j (N.1 24).toNatClampNeg with q | q; exact absurd ((z_ltc (by omega)).mpr q) c_39; omega)]
        decide
      refine lv_aload_n hx hb dX2_numberOf_139 rfl (lv_at hl 0 rfl) ?_
      refine lv_iload_n hx hb dX2_numberOf_140 rfl (lv_at hl 2 rfl) ?_
      refine lv_iload_n hx hb dX2_numberOf_141 rfl (lv_at hl 3 rfl) ?_
      refine zc_calli C hP hD hS hc (zl_addN hI _ _) (zb_runV C hP hD hS [0, 1, 2, 3, 4, 5, 6, 7, 8, 9, 10, 11, 12, 13, 14, 15, 16] rfl (by decide) rfl (kX2_add l g E o d N k hs hI hk) w_539 mX2_add 2 rfl rfl rfl rfl hl.1 rfl (Nat.le_of_ble_eq_true rfl) dX2_numberOf_142 ⟨Nat.le_of_ble_eq_true rfl, Nat.le_of_ble_eq_true rfl⟩ (hc.room (zc_L_le hI))) (fun r1 N1 d1 H locs cells slots hr1 hN1 hc hP hD hS => ?_)
      have hI : zc_I N1 := by rw [hN1]; exact zi_addN hI hk _ _
      subst hN1
      subst hr1
      exact zc_rig hQ hx hb hr hlocks hK hP hD hS hc rfl (by unfold zk_number; rw [if_pos hnf]) (by unfold zc_number; rw [if_pos hnf]) dX2_numberOf_145
    · have hlt : j < (N.1 24).toNatClampNeg := (z_ltc (by omega)).mp c_39
      have hm1 : (N.1 24).toNatClampNeg - j = ((N.1 24).toNatClampNeg - (j + 1)) + 1 := by omega
      refine lv_iload hx hb dX2_numberOf_42 (lv_at hl 6 rfl) ?_
      refine lv_if_lt (tgt := 139) hx hb dX2_numberOf_44 (by decide) (fun c_44 => ?_) (fun c_44 => ?_)
      · have hnf : zk_found N k hs < 0 := by
          rw [hf, zk_find_0 (fun h9 => h9.1 c_44)]
          decide
        refine lv_aload_n hx hb dX2_numberOf_139 rfl (lv_at hl 0 rfl) ?_
        refine lv_iload_n hx hb dX2_numberOf_140 rfl (lv_at hl 2 rfl) ?_
        refine lv_iload_n hx hb dX2_numberOf_141 rfl (lv_at hl 3 rfl) ?_
        refine zc_calli C hP hD hS hc (zl_addN hI _ _) (zb_runV C hP hD hS [0, 1, 2, 3, 4, 5, 6, 7, 8, 9, 10, 11, 12, 13, 14, 15, 16] rfl (by decide) rfl (kX2_add l g E o d N k hs hI hk) w_539 mX2_add 2 rfl rfl rfl rfl hl.1 rfl (Nat.le_of_ble_eq_true rfl) dX2_numberOf_142 ⟨Nat.le_of_ble_eq_true rfl, Nat.le_of_ble_eq_true rfl⟩ (hc.room (zc_L_le hI))) (fun r2 N2 d2 H locs cells slots hr2 hN2 hc hP hD hS => ?_)
        have hI : zc_I N2 := by rw [hN2]; exact zi_addN hI hk _ _
        subst hN2
        subst hr2
        exact zc_rig hQ hx hb hr hlocks hK hP hD hS hc rfl (by unfold zk_number; rw [if_pos hnf]) (by unfold zc_number; rw [if_pos hnf]) dX2_numberOf_145
      · refine lv_iload hx hb dX2_numberOf_47 (lv_at hl 6 rfl) ?_
        refine lv_aload_n hx hb dX2_numberOf_49 rfl (lv_at hl 0 rfl) ?_
        refine va_get (ci := 2) (v := .ref (d 22)) hx hb hts iX2 hown hK hP 2 rfl rfl 2 (by decide) (hts _ w_152) (fun _ h9 => h9) rfl dX2_numberOf_50 ?_
        refine va_alen (v := nI (N.2.2.2 22)) hx hb hK hP 13 1 rfl rfl rfl dX2_numberOf_53 ?_
        refine za_icmp_ge (tgt := 139) hx hb dX2_numberOf_54 (by decide) (fun c_54 => ?_) (fun c_54 => ?_)
        · have hnf : zk_found N k hs < 0 := by
            rw [hf, zk_find_0 (fun h9 => c_54 h9.2.1)]
            decide
          refine lv_aload_n hx hb dX2_numberOf_139 rfl (lv_at hl 0 rfl) ?_
          refine lv_iload_n hx hb dX2_numberOf_140 rfl (lv_at hl 2 rfl) ?_
          refine lv_iload_n hx hb dX2_numberOf_141 rfl (lv_at hl 3 rfl) ?_
          refine zc_calli C hP hD hS hc (zl_addN hI _ _) (zb_runV C hP hD hS [0, 1, 2, 3, 4, 5, 6, 7, 8, 9, 10, 11, 12, 13, 14, 15, 16] rfl (by decide) rfl (kX2_add l g E o d N k hs hI hk) w_539 mX2_add 2 rfl rfl rfl rfl hl.1 rfl (Nat.le_of_ble_eq_true rfl) dX2_numberOf_142 ⟨Nat.le_of_ble_eq_true rfl, Nat.le_of_ble_eq_true rfl⟩ (hc.room (zc_L_le hI))) (fun r3 N3 d3 H locs cells slots hr3 hN3 hc hP hD hS => ?_)
          have hI : zc_I N3 := by rw [hN3]; exact zi_addN hI hk _ _
          subst hN3
          subst hr3
          exact zc_rig hQ hx hb hr hlocks hK hP hD hS hc rfl (by unfold zk_number; rw [if_pos hnf]) (by unfold zc_number; rw [if_pos hnf]) dX2_numberOf_145
        · refine lv_iload hx hb dX2_numberOf_57 (lv_at hl 6 rfl) ?_
          refine lv_aload_n hx hb dX2_numberOf_59 rfl (lv_at hl 0 rfl) ?_
          refine va_get (ci := 2) (v := .ref (d 21)) hx hb hts iX2 hown hK hP 2 rfl rfl 1 (by decide) (hts _ w_151) (fun _ h9 => h9) rfl dX2_numberOf_60 ?_
          refine va_alen (v := nI (N.2.2.2 21)) hx hb hK hP 12 1 rfl rfl rfl dX2_numberOf_63 ?_
          refine za_icmp_ge (tgt := 139) hx hb dX2_numberOf_64 (by decide) (fun c_64 => ?_) (fun c_64 => ?_)
          · have hnf : zk_found N k hs < 0 := by
              rw [hf, zk_find_0 (fun h9 => c_64 h9.2.2)]
              decide
            refine lv_aload_n hx hb dX2_numberOf_139 rfl (lv_at hl 0 rfl) ?_
            refine lv_iload_n hx hb dX2_numberOf_140 rfl (lv_at hl 2 rfl) ?_
            refine lv_iload_n hx hb dX2_numberOf_141 rfl (lv_at hl 3 rfl) ?_
            refine zc_calli C hP hD hS hc (zl_addN hI _ _) (zb_runV C hP hD hS [0, 1, 2, 3, 4, 5, 6, 7, 8, 9, 10, 11, 12, 13, 14, 15, 16] rfl (by decide) rfl (kX2_add l g E o d N k hs hI hk) w_539 mX2_add 2 rfl rfl rfl rfl hl.1 rfl (Nat.le_of_ble_eq_true rfl) dX2_numberOf_142 ⟨Nat.le_of_ble_eq_true rfl, Nat.le_of_ble_eq_true rfl⟩ (hc.room (zc_L_le hI))) (fun r4 N4 d4 H locs cells slots hr4 hN4 hc hP hD hS => ?_)
            have hI : zc_I N4 := by rw [hN4]; exact zi_addN hI hk _ _
            subst hN4
            subst hr4
            exact zc_rig hQ hx hb hr hlocks hK hP hD hS hc rfl (by unfold zk_number; rw [if_pos hnf]) (by unfold zc_number; rw [if_pos hnf]) dX2_numberOf_145
          · refine lv_aload_n hx hb dX2_numberOf_67 rfl (lv_at hl 0 rfl) ?_
            refine lv_iload hx hb dX2_numberOf_68 (lv_at hl 6 rfl) ?_
            refine za_ci (wc := zc_ws g o d N) (wr := []) C hP hD hS [0, 1, 2, 3, 4, 5, 6, 7, 8, 9, 10, 11, 12, 13, 14, 15, 16] [] rfl rfl (by decide) (by decide) (za_runV C hP hD hS [0, 1, 2, 3, 4, 5, 6, 7, 8, 9, 10, 11, 12, 13, 14, 15, 16] rfl (by decide) rfl (kX2_firstToken l g E o d N n hI ) w_530 mX2_firstToken 2 rfl rfl rfl rfl hl.1 rfl (Nat.le_of_ble_eq_true rfl) dX2_numberOf_70 ⟨Nat.le_of_ble_eq_true rfl, Nat.le_of_ble_eq_true rfl⟩ (hc.le0 (zc_L_le hI))) (fun r5 _ H locs hr5 hP hD hS => ?_)
            subst hr5
            have hP : va_P g.1 vwCl (zc_ws g o d N) H := hP
            have hD : va_D A (zc_ws g o d N) := hD
            refine lv_istore (lv' := [(8, .int (zk_first N n)), (0, .ref (o 2)), (1, .ref (o 7)), (2, .int k), (3, .int hs), (4, .int (zk_fact N k 9)), (5, .int (zk_fact N k 8)), (6, .int n), (7, .int (nI j))]) hx hb dX2_numberOf_73 hl (by decide) rfl (fun ls hl => ?_)
            refine lv_aload_n hx hb dX2_numberOf_75 rfl (lv_at hl 1 rfl) ?_
            refine va_get (ci := 2) (v := .ref (d 22)) hx hb hts iX2 hown hK hP 2 rfl rfl 2 (by decide) (hts _ w_152) (fun _ h9 => h9) rfl dX2_numberOf_76 ?_
            refine lv_iload hx hb dX2_numberOf_79 (lv_at hl 7 rfl) ?_
            refine va_iald (f := N.2.1 22) hx hb hK hP 13 1 rfl rfl (zk_in c_44 c_54 (Nat.le_refl _) (by have := (zc_len hI 22 (by decide)).2; omega)) dX2_numberOf_81 ?_
            refine lv_iload_n hx hb dX2_numberOf_82 rfl (lv_at hl 4 rfl) ?_
            refine lv_icmp_ne (tgt := 124) hx hb dX2_numberOf_83 (by decide) (fun c_83 => ?_) (fun c_83 => ?_)
            · refine lv_aload_n hx hb dX2_numberOf_124 rfl (lv_at hl 1 rfl) ?_
              refine va_get (ci := 2) (v := .ref (d 21)) hx hb hts iX2 hown hK hP 2 rfl rfl 1 (by decide) (hts _ w_151) (fun _ h9 => h9) rfl dX2_numberOf_125 ?_
              refine lv_iload hx hb dX2_numberOf_128 (lv_at hl 7 rfl) ?_
              refine va_iald (f := N.2.1 21) hx hb hK hP 12 1 rfl rfl (zk_in c_44 c_64 (Nat.le_refl _) (by have := (zc_len hI 21 (by decide)).2; omega)) dX2_numberOf_130 ?_
              refine lv_istore (lv' := [(6, .int (N.2.1 21 n.toNatClampNeg)), (8, .int (zk_first N n)), (0, .ref (o 2)), (1, .ref (o 7)), (2, .int k), (3, .int hs), (4, .int (zk_fact N k 9)), (5, .int (zk_fact N k 8)), (7, .int (nI j))]) hx hb dX2_numberOf_131 hl (by decide) rfl (fun ls hl => ?_)
              refine lv_iinc (v := nI (j + 1)) (lv' := [(7, .int (nI (j + 1))), (6, .int (N.2.1 21 n.toNatClampNeg)), (8, .int (zk_first N n)), (0, .ref (o 2)), (1, .ref (o 7)), (2, .int k), (3, .int hs), (4, .int (zk_fact N k 9)), (5, .int (zk_fact N k 8))]) hx hb dX2_numberOf_133 hl (k := 8) rfl (nI_1 _) (by decide) rfl (fun ls hl => ?_)
              refine lv_goto (tgt := 33) hx hb dX2_numberOf_136 (by decide) ?_
              exact ih (j + 1) (N.2.1 21 n.toNatClampNeg) (by omega) (by rw [hf, zk_find_s hm1, if_pos ⟨c_44, c_54, c_64⟩, if_neg (fun h9 => c_83 h9.1)]) (by omega) cells slots H locs ls hS hP hD hc hI (lv_sub hl [3, 4, 5, 6, 7, 8, 1, 0] rfl)
            · refine lv_aload_n hx hb dX2_numberOf_86 rfl (lv_at hl 2 rfl) ?_
              refine lv_iload hx hb dX2_numberOf_87 (lv_at hl 0 rfl) ?_
              refine lv_bipush (v := 8) hx hb dX2_numberOf_89 (by decide) ?_
              refine za_ci (wc := zc_ws g o d N) (wr := []) C hP hD hS [0, 1, 2, 3, 4, 5, 6, 7, 8, 9, 10, 11, 12, 13, 14, 15, 16] [] rfl rfl (by decide) (by decide) (za_runV C hP hD hS [0, 1, 2, 3, 4, 5, 6, 7, 8, 9, 10, 11, 12, 13, 14, 15, 16] rfl (by decide) rfl (kX8_fact l g E o d N (zk_first N n) 8 hI ) w_522 mX8_fact 7 rfl rfl rfl rfl hl.1 rfl (Nat.le_of_ble_eq_true rfl) dX2_numberOf_91 ⟨Nat.le_of_ble_eq_true rfl, Nat.le_of_ble_eq_true rfl⟩ (hc.le0 (zc_L_le hI))) (fun r6 _ H locs hr6 hP hD hS => ?_)
              subst hr6
              have hP : va_P g.1 vwCl (zc_ws g o d N) H := hP
              have hD : va_D A (zc_ws g o d N) := hD
              refine lv_iload hx hb dX2_numberOf_94 (lv_at hl 6 rfl) ?_
              refine lv_icmp_ne (tgt := 124) hx hb dX2_numberOf_96 (by decide) (fun c_96 => ?_) (fun c_96 => ?_)
              · refine lv_aload_n hx hb dX2_numberOf_124 rfl (lv_at hl 1 rfl) ?_
                refine va_get (ci := 2) (v := .ref (d 21)) hx hb hts iX2 hown hK hP 2 rfl rfl 1 (by decide) (hts _ w_151) (fun _ h9 => h9) rfl dX2_numberOf_125 ?_
                refine lv_iload hx hb dX2_numberOf_128 (lv_at hl 7 rfl) ?_
                refine va_iald (f := N.2.1 21) hx hb hK hP 12 1 rfl rfl (zk_in c_44 c_64 (Nat.le_refl _) (by have := (zc_len hI 21 (by decide)).2; omega)) dX2_numberOf_130 ?_
                refine lv_istore (lv' := [(6, .int (N.2.1 21 n.toNatClampNeg)), (8, .int (zk_first N n)), (0, .ref (o 2)), (1, .ref (o 7)), (2, .int k), (3, .int hs), (4, .int (zk_fact N k 9)), (5, .int (zk_fact N k 8)), (7, .int (nI j))]) hx hb dX2_numberOf_131 hl (by decide) rfl (fun ls hl => ?_)
                refine lv_iinc (v := nI (j + 1)) (lv' := [(7, .int (nI (j + 1))), (6, .int (N.2.1 21 n.toNatClampNeg)), (8, .int (zk_first N n)), (0, .ref (o 2)), (1, .ref (o 7)), (2, .int k), (3, .int hs), (4, .int (zk_fact N k 9)), (5, .int (zk_fact N k 8))]) hx hb dX2_numberOf_133 hl (k := 8) rfl (nI_1 _) (by decide) rfl (fun ls hl => ?_)
                refine lv_goto (tgt := 33) hx hb dX2_numberOf_136 (by decide) ?_
                exact ih (j + 1) (N.2.1 21 n.toNatClampNeg) (by omega) (by rw [hf, zk_find_s hm1, if_pos ⟨c_44, c_54, c_64⟩, if_neg (fun h9 => c_96 h9.2.1)]) (by omega) cells slots H locs ls hS hP hD hc hI (lv_sub hl [3, 4, 5, 6, 7, 8, 1, 0] rfl)
              · refine lv_aload_n hx hb dX2_numberOf_99 rfl (lv_at hl 2 rfl) ?_
                refine va_get (ci := 7) (v := .ref (o 0)) hx hb hts iX8 hown hK hP 7 rfl rfl 2 (by decide) (hts _ w_173) (fun _ h9 => h9) rfl dX2_numberOf_100 ?_
                refine lv_aload_n hx hb dX2_numberOf_103 rfl (lv_at hl 2 rfl) ?_
                refine lv_iload hx hb dX2_numberOf_104 (lv_at hl 0 rfl) ?_
                refine lv_bipush (v := 9) hx hb dX2_numberOf_106 (by decide) ?_
                refine za_ci (wc := zc_ws g o d N) (wr := []) C hP hD hS [0, 1, 2, 3, 4, 5, 6, 7, 8, 9, 10, 11, 12, 13, 14, 15, 16] [] rfl rfl (by decide) (by decide) (za_runV C hP hD hS [0, 1, 2, 3, 4, 5, 6, 7, 8, 9, 10, 11, 12, 13, 14, 15, 16] rfl (by decide) rfl (kX8_fact l g E o d N (zk_first N n) 9 hI ) w_522 mX8_fact 7 rfl rfl rfl rfl hl.1 rfl (Nat.le_of_ble_eq_true rfl) dX2_numberOf_108 ⟨Nat.le_of_ble_eq_true rfl, Nat.le_of_ble_eq_true rfl⟩ (hc.le0 (zc_L_le hI))) (fun r7 _ H locs hr7 hP hD hS => ?_)
                subst hr7
                have hP : va_P g.1 vwCl (zc_ws g o d N) H := hP
                have hD : va_D A (zc_ws g o d N) := hD
                refine lv_iload hx hb dX2_numberOf_111 (lv_at hl 5 rfl) ?_
                refine lv_iload hx hb dX2_numberOf_113 (lv_at hl 6 rfl) ?_
                refine za_ci (wc := zc_ws g o d N) (wr := []) C hP hD hS [0, 1, 2, 3, 4, 5, 6, 7, 8, 9, 10, 11, 12, 13, 14, 15, 16] [] rfl rfl (by decide) (by decide) (za_runV C hP hD hS [0, 1, 2, 3, 4, 5, 6, 7, 8, 9, 10, 11, 12, 13, 14, 15, 16] rfl (by decide) rfl (kX0_areEqual l g E o d N (zk_fact N (zk_first N n) 9) (zk_fact N k 9) (zk_fact N k 8) hI ) w_534 mX0_areEqual 0 rfl rfl rfl rfl hl.1 rfl (Nat.le_of_ble_eq_true rfl) dX2_numberOf_115 ⟨Nat.le_of_ble_eq_true rfl, Nat.le_of_ble_eq_true rfl⟩ (hc.le0 (zc_L_le hI))) (fun r8 _ H locs hr8 hP hD hS => ?_)
                subst hr8
                have hP : va_P g.1 vwCl (zc_ws g o d N) H := hP
                have hD : va_D A (zc_ws g o d N) := hD
                refine lv_if_eq (tgt := 124) hx hb dX2_numberOf_118 (by decide) (fun c_118 => ?_) (fun c_118 => ?_)
                · refine lv_aload_n hx hb dX2_numberOf_124 rfl (lv_at hl 1 rfl) ?_
                  refine va_get (ci := 2) (v := .ref (d 21)) hx hb hts iX2 hown hK hP 2 rfl rfl 1 (by decide) (hts _ w_151) (fun _ h9 => h9) rfl dX2_numberOf_125 ?_
                  refine lv_iload hx hb dX2_numberOf_128 (lv_at hl 7 rfl) ?_
                  refine va_iald (f := N.2.1 21) hx hb hK hP 12 1 rfl rfl (zk_in c_44 c_64 (Nat.le_refl _) (by have := (zc_len hI 21 (by decide)).2; omega)) dX2_numberOf_130 ?_
                  refine lv_istore (lv' := [(6, .int (N.2.1 21 n.toNatClampNeg)), (8, .int (zk_first N n)), (0, .ref (o 2)), (1, .ref (o 7)), (2, .int k), (3, .int hs), (4, .int (zk_fact N k 9)), (5, .int (zk_fact N k 8)), (7, .int (nI j))]) hx hb dX2_numberOf_131 hl (by decide) rfl (fun ls hl => ?_)
                  refine lv_iinc (v := nI (j + 1)) (lv' := [(7, .int (nI (j + 1))), (6, .int (N.2.1 21 n.toNatClampNeg)), (8, .int (zk_first N n)), (0, .ref (o 2)), (1, .ref (o 7)), (2, .int k), (3, .int hs), (4, .int (zk_fact N k 9)), (5, .int (zk_fact N k 8))]) hx hb dX2_numberOf_133 hl (k := 8) rfl (nI_1 _) (by decide) rfl (fun ls hl => ?_)
                  refine lv_goto (tgt := 33) hx hb dX2_numberOf_136 (by decide) ?_
                  exact ih (j + 1) (N.2.1 21 n.toNatClampNeg) (by omega) (by rw [hf, zk_find_s hm1, if_pos ⟨c_44, c_54, c_64⟩, if_neg (fun h9 => h9.2.2 c_118)]) (by omega) cells slots H locs ls hS hP hD hc hI (lv_sub hl [3, 4, 5, 6, 7, 8, 1, 0] rfl)
                · have hfd : zk_found N k hs = n := by rw [hf, zk_find_s hm1, if_pos ⟨c_44, c_54, c_64⟩, if_pos ⟨c_83, c_96, c_118⟩]
                  refine lv_iload hx hb dX2_numberOf_121 (lv_at hl 7 rfl) ?_
                  exact zc_rig hQ hx hb hr hlocks hK hP hD hS hc rfl (by unfold zk_number; rw [hfd, if_neg c_44]) (by unfold zc_number; rw [hfd, if_neg c_44]) dX2_numberOf_123
set_option maxHeartbeats 4000000 in
set_option maxRecDepth 100000 in
theorem kX2_numberOf (l : Launch) (g : za_G) (E : za_E) (o d : Nat → Nat) (N : zc_N) (k hs : Int32) (hI : zc_I N) (hk : zc_K N) : zb_Ci l g E yX2_numberOf cX2_numberOf 9 ((some .int)) 3 (zc_rc N) (zc_rs N) (zc_L (zc_number N k hs) - zc_L N) (2 * (zc_L (zc_number N k hs) - zc_L N)) [.ref (o 2), .ref (o 7), .int k, .int hs] (zc_ws g o d N) (fun r (u : zc_N × (Nat → Nat)) => r = zk_number N k hs ∧ u.1 = zc_number N k hs) (fun u => zc_ws g o u.2 u.1) := by
  refine zb_begin (by decide) (Nat.le_of_ble_eq_true rfl) RX2 rfl ?_
  intro p e s m args below meth co A ls Q H locs C hQ hr hlocks hnm hS hP hD hl
  obtain ⟨hx, hb, hml, hown, hts, hK, hA, hE⟩ := id C
  have hl : lv_has ls 9 [(0, .ref (o 2)), (1, .ref (o 7)), (2, .int k), (3, .int hs)] := hl
  have hc : zb_c N N 0 0 := zb_c.rf
  revert hc
  refine (fun (z9 : ∀ cells slots : Nat, zb_c N N cells slots → W p l e (za_R 3 (zc_rc N) (zc_rs N)) s m args below meth co H locs cells slots Q (F0 m 0 ls [])) hc => z9 0 0 hc) (fun cells slots hc => ?_)
  refine lv_aload_n hx hb dX2_numberOf_0 rfl (lv_at hl 1 rfl) ?_
  refine lv_iload_n hx hb dX2_numberOf_1 rfl (lv_at hl 2 rfl) ?_
  refine lv_bipush (v := 9) hx hb dX2_numberOf_2 (by decide) ?_
  refine za_ci (wc := zc_ws g o d N) (wr := []) C hP hD hS [0, 1, 2, 3, 4, 5, 6, 7, 8, 9, 10, 11, 12, 13, 14, 15, 16] [] rfl rfl (by decide) (by decide) (za_runV C hP hD hS [0, 1, 2, 3, 4, 5, 6, 7, 8, 9, 10, 11, 12, 13, 14, 15, 16] rfl (by decide) rfl (kX8_fact l g E o d N k 9 hI ) w_522 mX8_fact 7 rfl rfl rfl rfl hl.1 rfl (Nat.le_of_ble_eq_true rfl) dX2_numberOf_4 ⟨Nat.le_of_ble_eq_true rfl, Nat.le_of_ble_eq_true rfl⟩ (hc.le0 (zc_L_le hI))) (fun r1 _ H locs hr1 hP hD hS => ?_)
  subst hr1
  have hP : va_P g.1 vwCl (zc_ws g o d N) H := hP
  have hD : va_D A (zc_ws g o d N) := hD
  refine lv_istore (lv' := [(4, .int (zk_fact N k 9)), (0, .ref (o 2)), (1, .ref (o 7)), (2, .int k), (3, .int hs)]) hx hb dX2_numberOf_7 hl (by decide) rfl (fun ls hl => ?_)
  refine lv_aload_n hx hb dX2_numberOf_9 rfl (lv_at hl 2 rfl) ?_
  refine lv_iload_n hx hb dX2_numberOf_10 rfl (lv_at hl 3 rfl) ?_
  refine lv_bipush (v := 8) hx hb dX2_numberOf_11 (by decide) ?_
  refine za_ci (wc := zc_ws g o d N) (wr := []) C hP hD hS [0, 1, 2, 3, 4, 5, 6, 7, 8, 9, 10, 11, 12, 13, 14, 15, 16] [] rfl rfl (by decide) (by decide) (za_runV C hP hD hS [0, 1, 2, 3, 4, 5, 6, 7, 8, 9, 10, 11, 12, 13, 14, 15, 16] rfl (by decide) rfl (kX8_fact l g E o d N k 8 hI ) w_522 mX8_fact 7 rfl rfl rfl rfl hl.1 rfl (Nat.le_of_ble_eq_true rfl) dX2_numberOf_13 ⟨Nat.le_of_ble_eq_true rfl, Nat.le_of_ble_eq_true rfl⟩ (hc.le0 (zc_L_le hI))) (fun r2 _ H locs hr2 hP hD hS => ?_)
  subst hr2
  have hP : va_P g.1 vwCl (zc_ws g o d N) H := hP
  have hD : va_D A (zc_ws g o d N) := hD
  refine lv_istore (lv' := [(5, .int (zk_fact N k 8)), (4, .int (zk_fact N k 9)), (0, .ref (o 2)), (1, .ref (o 7)), (2, .int k), (3, .int hs)]) hx hb dX2_numberOf_16 hl (by decide) rfl (fun ls hl => ?_)
  refine lv_aload_n hx hb dX2_numberOf_18 rfl (lv_at hl 2 rfl) ?_
  refine va_get (ci := 2) (v := .ref (d 20)) hx hb hts iX2 hown hK hP 2 rfl rfl 0 (by decide) (hts _ w_150) (fun _ h9 => h9) rfl dX2_numberOf_19 ?_
  refine lv_iload_n hx hb dX2_numberOf_22 rfl (lv_at hl 5 rfl) ?_
  refine lv_sipush (v := 511) hx hb dX2_numberOf_23 (by decide) ?_
  refine lv_iand hx hb dX2_numberOf_26 ?_
  refine va_iald (f := N.2.1 20) hx hb hK hP 11 1 rfl rfl (pk_andIn _ 9 (by decide) (by decide)) dX2_numberOf_27 ?_
  refine lv_istore (lv' := [(6, .int (N.2.1 20 (hs &&& 511).toNatClampNeg)), (5, .int (zk_fact N k 8)), (4, .int (zk_fact N k 9)), (0, .ref (o 2)), (1, .ref (o 7)), (2, .int k), (3, .int hs)]) hx hb dX2_numberOf_28 hl (by decide) rfl (fun ls hl => ?_)
  refine lv_iconst (v := 0) hx hb dX2_numberOf_30 (by decide) ?_
  refine lv_istore (lv' := [(7, .int 0), (6, .int (N.2.1 20 (hs &&& 511).toNatClampNeg)), (5, .int (zk_fact N k 8)), (4, .int (zk_fact N k 9)), (0, .ref (o 2)), (1, .ref (o 7)), (2, .int k), (3, .int hs)]) hx hb dX2_numberOf_31 hl (by decide) rfl (fun ls hl => ?_)
  exact kL_numberOf l g E o d N k hs hk C hQ hr hlocks _ 0 _ (Nat.zero_le _) (by rw [Nat.sub_zero]; rfl) (Nat.lt_succ_self _) cells slots H locs ls hS hP hD hc hI (lv_sub hl [4, 5, 6, 7, 3, 2, 1, 0] rfl)
