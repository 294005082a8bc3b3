theorem zk_cutTo_01 (N : zc_N) (n : Int32) : zk_cutTo N n = 0 ∨ zk_cutTo N n = 1 := by
  unfold zk_cutTo
  split
  · exact Or.inl rfl
  · exact Or.inr rfl
-- the value of an INT
def zk_fd (N : zc_N) (k : Int32) : Int32 := if 57 < zk_byteOf N k 1 then 2 else 0
def zk_lows (N : zc_N) (k b : Int32) : Nat → Nat → Int64 → Int64
  | 0, _, v => v
  | m + 1, i, v => zk_lows N k b m (i + 1) (v * b.toInt64 + (zk_digitOf (zk_byteOf N k (nI i)) b).toInt64)
theorem zk_lows_s {N : zc_N} {k b : Int32} {m j i : Nat} {v : Int64} (h : m = j + 1) : zk_lows N k b m i v = zk_lows N k b j (i + 1) (v * b.toInt64 + (zk_digitOf (zk_byteOf N k (nI i)) b).toInt64) := by
  subst h
  rfl
theorem zk_lows_z {N : zc_N} {k b : Int32} {m i : Nat} {v : Int64} (h : m = 0) : zk_lows N k b m i v = v := by
  subst h
  rfl
def zk_lowBits (N : zc_N) (k : Int32) : Int64 := zk_lows N k (zk_fact N k 7) ((zk_fact N k 8).toNatClampNeg - (zk_fd N k).toNatClampNeg) (zk_fd N k).toNatClampNeg 0
theorem zk_fd_nI (N : zc_N) (k : Int32) : zk_fd N k = nI (zk_fd N k).toNatClampNeg ∧ (zk_fd N k).toNatClampNeg ≤ 2 := by
  unfold zk_fd
  split
  · exact ⟨rfl, by decide⟩
  · exact ⟨rfl, by decide⟩
def zk_shr (c : Int64) (y : Int32) : Int64 := (c.toUInt64 >>> (y.toInt64.toUInt64 &&& Int64.toUInt64 63)).toInt64
def zk_cc (N : zc_N) (b : Int32) (i : Nat) (c : Int64) : Int64 := c + N.2.2.1 (nI i).toNatClampNeg * b.toInt64
/-- the limbs from i on, m of them, times b, with what is carried -/
def zc_lim (b : Int32) : Nat → Nat → zc_N → Int64 → zc_N
  | 0, _, N, _ => N
  | m + 1, i, N, c => zc_lim b m (i + 1) (zc_l N (nI i) (zk_cc N b i c &&& 4294967295)) (zk_shr (zk_cc N b i c) 32)
def zk_car (b : Int32) : Nat → Nat → zc_N → Int64 → Int64
  | 0, _, _, c => c
  | m + 1, i, N, c => zk_car b m (i + 1) (zc_l N (nI i) (zk_cc N b i c &&& 4294967295)) (zk_shr (zk_cc N b i c) 32)
theorem zc_lim_s {b : Int32} {m j i : Nat} {N : zc_N} {c : Int64} (h : m = j + 1) : zc_lim b m i N c = zc_lim b j (i + 1) (zc_l N (nI i) (zk_cc N b i c &&& 4294967295)) (zk_shr (zk_cc N b i c) 32) := by
  subst h
  rfl
theorem zk_car_s {b : Int32} {m j i : Nat} {N : zc_N} {c : Int64} (h : m = j + 1) : zk_car b m i N c = zk_car b j (i + 1) (zc_l N (nI i) (zk_cc N b i c &&& 4294967295)) (zk_shr (zk_cc N b i c) 32) := by
  subst h
  rfl
def zk_used (N : zc_N) : Nat := (N.1 12).toNatClampNeg
def zc_appL (N : zc_N) (b dg : Int32) : zc_N := zc_lim b (zk_used N) 0 N dg.toInt64
def zk_appC (N : zc_N) (b dg : Int32) : Int64 := zk_car b (zk_used N) 0 N dg.toInt64
def zc_appD (N : zc_N) (b dg : Int32) : zc_N := if lg_cmp (zk_appC N b dg) 0 = 0 then zc_appL N b dg else if N.1 12 < 16 then zc_s (zc_l (zc_appL N b dg) (N.1 12) (zk_appC N b dg)) 12 (N.1 12 + 1) else zc_appL N b dg
def zk_appD (N : zc_N) (b dg : Int32) : Int32 := if lg_cmp (zk_appC N b dg) 0 = 0 then 1 else if N.1 12 < 16 then 1 else 0
theorem zc_lim_f (b : Int32) : ∀ (m i : Nat) (N : zc_N) (c : Int64), (zc_lim b m i N c).1 = N.1 ∧ (zc_lim b m i N c).2.1 = N.2.1 ∧ (zc_lim b m i N c).2.2.2 = N.2.2.2 := by
  intro m
  induction m with
  | zero => intro i N c; exact ⟨rfl, rfl, rfl⟩
  | succ m ih => intro i N c; rw [zc_lim_s rfl]; exact ih _ _ _
theorem zi_limb {N X : zc_N} (hI : zc_I N) (h1 : X.1 = N.1) (h2 : X.2.1 = N.2.1) (h3 : X.2.2.2 = N.2.2.2) : zc_I X := by
  unfold zc_I
  rw [h1, h2, h3]
  exact hI
theorem zi_appL {N : zc_N} (hI : zc_I N) (b dg : Int32) : zc_I (zc_appL N b dg) := zi_limb hI (zc_lim_f _ _ _ _ _).1 (zc_lim_f _ _ _ _ _).2.1 (zc_lim_f _ _ _ _ _).2.2
theorem zi_12 {N : zc_N} (hI : zc_I N) {i : Int32} {c : Int64} (h : N.1 12 < 16) : zc_I (zc_s (zc_l N i c) 12 (N.1 12 + 1)) := by
  obtain ⟨i1, i2, i3, i4, i5, ⟨v, v1, v2⟩, i7, i8⟩ := hI
  rw [v1] at h
  have h9 : v < 16 := z_lit (by omega) (by decide) h
  exact ⟨i1, i2, i3, i4, i5, ⟨v + 1, (by show N.1 12 + 1 = nI (v + 1); rw [v1, nI_1]), h9⟩, i7, i8⟩
theorem zi_appD {N : zc_N} (hI : zc_I N) (b dg : Int32) : zc_I (zc_appD N b dg) := by
  unfold zc_appD
  split
  · exact zi_appL hI _ _
  · split
    · rename_i h
      have e : (zc_appL N b dg).1 12 = N.1 12 := by rw [show (zc_appL N b dg).1 = N.1 from (zc_lim_f _ _ _ _ _).1]
      have := zi_12 (i := N.1 12) (c := zk_appC N b dg) (zi_appL hI b dg) (by rw [e]; exact h)
      rw [e] at this
      exact this
    · exact zi_appL hI _ _
def zk_nobit (N : zc_N) : Nat → Nat → Int32 → Int32
  | 0, _, _ => 1
  | m + 1, i, y => if lg_cmp (zk_shr (N.2.2.1 (nI i).toNatClampNeg) y) 0 = 0 then zk_nobit N m (i + 1) 0 else 0
theorem zk_nobit_s {N : zc_N} {m j i : Nat} {y : Int32} (h : m = j + 1) : zk_nobit N m i y = if lg_cmp (zk_shr (N.2.2.1 (nI i).toNatClampNeg) y) 0 = 0 then zk_nobit N j (i + 1) 0 else 0 := by
  subst h
  rfl
theorem zk_nobit_z {N : zc_N} {m i : Nat} {y : Int32} (h : m = 0) : zk_nobit N m i y = 1 := by
  subst h
  rfl
theorem zk_nobit_01 (N : zc_N) : ∀ (m i : Nat) (y : Int32), zk_nobit N m i y = 0 ∨ zk_nobit N m i y = 1 := by
  intro m
  induction m with
  | zero => intro i y; exact Or.inr rfl
  | succ m ih =>
    intro i y
    rw [zk_nobit_s rfl]
    split
    · exact ih _ _
    · exact Or.inl rfl
def zk_hasNo (N : zc_N) (B : Nat) : Int32 := zk_nobit N (zk_used N - B / 32) (B / 32) (nI (B % 32))
theorem z_512 : ∀ B : Nat, B < 513 → nI B / 32 = nI (B / 32) ∧ nI B - nI B / 32 * 32 = nI (B % 32) := by decide +kernel
/-- digits i .. of token k, m of them, put into the limbs: whether they all fit, the state behind -/
abbrev zk_dgt (N : zc_N) (k b : Int32) (i : Nat) : Int32 := zk_digitOf (zk_byteOf N k (nI i)) b
def zk_pow (k b : Int32) : Nat → Nat → zc_N → Int32
  | 0, _, _ => 1
  | m + 1, i, N => if zk_appD N b (zk_dgt N k b i) = 0 then 0 else zk_pow k b m (i + 1) (zc_appD N b (zk_dgt N k b i))
def zc_pow (k b : Int32) : Nat → Nat → zc_N → zc_N
  | 0, _, N => N
  | m + 1, i, N => if zk_appD N b (zk_dgt N k b i) = 0 then zc_appD N b (zk_dgt N k b i) else zc_pow k b m (i + 1) (zc_appD N b (zk_dgt N k b i))
theorem zk_pow_s {k b : Int32} {m j i : Nat} {N : zc_N} (h : m = j + 1) : zk_pow k b m i N = if zk_appD N b (zk_dgt N k b i) = 0 then 0 else zk_pow k b j (i + 1) (zc_appD N b (zk_dgt N k b i)) := by
  subst h
  rfl
theorem zc_pow_s {k b : Int32} {m j i : Nat} {N : zc_N} (h : m = j + 1) : zc_pow k b m i N = if zk_appD N b (zk_dgt N k b i) = 0 then zc_appD N b (zk_dgt N k b i) else zc_pow k b j (i + 1) (zc_appD N b (zk_dgt N k b i)) := by
  subst h
  rfl
theorem zk_pow_z {k b : Int32} {m i : Nat} {N : zc_N} (h : m = 0) : zk_pow k b m i N = 1 := by
  subst h
  rfl
theorem zc_pow_z {k b : Int32} {m i : Nat} {N : zc_N} (h : m = 0) : zc_pow k b m i N = N := by
  subst h
  rfl
def zc_below (N : zc_N) (k : Int32) : zc_N := zc_pow k (zk_fact N k 7) ((zk_fact N k 8).toNatClampNeg - (zk_fd N k).toNatClampNeg) (zk_fd N k).toNatClampNeg (zc_s N 12 0)
def zk_below (N : zc_N) (k : Int32) (B : Nat) : Int32 := if zk_pow k (zk_fact N k 7) ((zk_fact N k 8).toNatClampNeg - (zk_fd N k).toNatClampNeg) (zk_fd N k).toNatClampNeg (zc_s N 12 0) = 0 then 0 else zk_hasNo (zc_below N k) B
theorem zi_120 {N : zc_N} (hI : zc_I N) : zc_I (zc_s N 12 0) := by
  obtain ⟨i1, i2, i3, i4, i5, i6, i7, i8⟩ := hI
  exact ⟨i1, i2, i3, i4, i5, ⟨0, rfl, by omega⟩, i7, i8⟩
theorem zi_pow (k b : Int32) : ∀ (m i : Nat) {N : zc_N}, zc_I N → zc_I (zc_pow k b m i N) := by
  intro m
  induction m with
  | zero => intro i N h; exact h
  | succ m ih =>
    intro i N h
    rw [zc_pow_s rfl]
    split
    · exact zi_appD h _ _
    · exact ih _ (zi_appD h _ _)
theorem zi_below {N : zc_N} (hI : zc_I N) (k : Int32) : zc_I (zc_below N k) := zi_pow _ _ _ _ (zi_120 hI)
set_option maxHeartbeats 4000000 in
set_option maxRecDepth 100000 in
theorem kL_scan (l : Launch) (g : za_G) (E : za_E) (o d : Nat → Nat) (N : zc_N)   {p : Program} {e : Env} {s : State} {m : MethodId} {args : Array Value} {below : List Frame} {meth : Method} {co : Code} {A : Nat → Prop} {Q : State → Prop} (C : za_H p s m args co cX9_scan 2 RX9 g E A) (hQ : Q = MQ below (za_qi g (fun r (u : zc_N × (Nat → Nat)) => r = zk_scan N ∧ u.1 = zc_scan N) (fun u => zc_ws g o u.2 u.1) A) args s (zc_L (zc_scan N) - zc_L N) (2 * (zc_L (zc_scan N) - zc_L N)) A) (hr : meth.sig.returnType = (some .int)) (hlocks : meth.locks = false)  : ∀ (n_ : Nat) (k : Nat) (X : zc_N), (k ≤ 65536) → (zc_scanL zk_F (zc_begin N) = zc_scanL k X) → k < n_ → ∀ (d1 : Nat → Nat) (cells slots : Nat) (H : Heap) (locs : List Loc) (ls : Array Slot), va_S A s.heap H locs → va_P g.1 vwCl (zc_ws g o d1 X) H → va_D A (zc_ws g o d1 X) → zb_c N X cells slots → zc_I X → lv_has ls 2 [(0, .ref (o 8)), (1, .int (nI (65536 - k)))] → W p l e (za_R 8 (zc_rc N) (zc_rs N)) s m args below meth co H locs cells slots Q (F0 m 9 ls []) := by
  obtain ⟨hx, hb, hml, hown, hts, hK, hA, hE⟩ := id C
  intro n_
  induction n_ with
  | zero => intro k X hk6 hres hm; exact absurd hm (Nat.not_lt_zero _)
  | succ n_ ih =>
    intro k X hk6 hres hm d1 cells slots H locs ls hS hP hD hc hI hl
    refine lv_iload_n hx hb dX9_scan_9 rfl (lv_at hl 1 rfl) ?_
    refine lv_ldc (v := 65536) hx hb hown (hts _ w_340) dX9_scan_10 ?_
    refine za_icmp_ge (tgt := 48) hx hb dX9_scan_12 (by decide) (fun c_12 => ?_) (fun c_12 => ?_)
    · have hk0 : k = 0 := by
        cases k with
        | zero => rfl
        | succ kk => exact absurd (nI_lt (show 65536 - (kk + 1) < 65536 by omega) (by decide)) c_12
      have e1 : zc_scanL zk_F (zc_begin N) = X := by rw [hres, hk0]; rfl
      refine lv_aload_n hx hb dX9_scan_48 rfl (lv_at hl 0 rfl) ?_
      refine va_get (ci := 8) (v := .ref (o 5)) hx hb hts iX9 hown hK hP 8 rfl rfl 2 (by decide) (hts _ w_268) (fun _ h9 => h9) rfl dX9_scan_49 ?_
      refine zc_calli C hP hD hS hc (zl_finish) (zb_runV C hP hD hS [0, 1, 2, 3, 4, 5, 6, 7, 8, 9, 10, 11, 12, 13, 14, 15, 16] rfl (by decide) rfl (kX5_finish l g E o d1 X  hI ) w_654 mX5_finish 5 rfl rfl rfl rfl hl.1 rfl (Nat.le_of_ble_eq_true rfl) dX9_scan_52 ⟨Nat.le_of_ble_eq_true rfl, Nat.le_of_ble_eq_true rfl⟩ (hc.room (zc_L_le hI))) (fun r1 N1 d1 H locs cells slots hr1 hN1 hc hP hD hS => ?_)
      have hI : zc_I N1 := by rw [hN1]; exact zi_finish hI
      refine lv_istore_n (lv' := [(1, .int r1), (0, .ref (o 8))]) hx hb dX9_scan_55 rfl hl (by decide) rfl (fun ls hl => ?_)
      refine lv_aload_n hx hb dX9_scan_56 rfl (lv_at hl 1 rfl) ?_
      refine va_get (ci := 8) (v := .ref (o 6)) hx hb hts iX9 hown hK hP 8 rfl rfl 0 (by decide) (hts _ w_266) (fun _ h9 => h9) rfl dX9_scan_57 ?_
      refine lv_iconst (v := 0) hx hb dX9_scan_60 (by decide) ?_
      refine za_ci (wc := zc_ws g o d1 N1) (wr := []) C hP hD hS [0, 1, 2, 3, 4, 5, 6, 7, 8, 9, 10, 11, 12, 13, 14, 15, 16] [] rfl rfl (by decide) (by decide) (za_runV C hP hD hS [0, 1, 2, 3, 4, 5, 6, 7, 8, 9, 10, 11, 12, 13, 14, 15, 16] rfl (by decide) rfl (kX7_cutTo l g E o d1 N1 0 hI ) w_312 mX7_cutTo 6 rfl rfl rfl rfl hl.1 rfl (Nat.le_of_ble_eq_true rfl) dX9_scan_61 ⟨Nat.le_of_ble_eq_true rfl, Nat.le_of_ble_eq_true rfl⟩ (hc.le0 (zc_L_le hI))) (fun r2 N2 H locs hN2 hP hD hS => ?_)
      obtain ⟨hr2, hN2⟩ := hN2
      have hI : zc_I N2 := by rw [hN2]; exact zi_cutTo hI _
      have hc : zb_c N N2 cells slots := by rw [hN2]; exact hc.eq zL_cutTo
      have hP : va_P g.1 vwCl (zc_ws g o d1 N2) H := hP
      have hD : va_D A (zc_ws g o d1 N2) := hD
      refine lv_pop hx hb dX9_scan_64 rfl ?_
      refine lv_iload_n hx hb dX9_scan_65 rfl (lv_at hl 0 rfl) ?_
      exact zc_rig hQ hx hb hr hlocks hK hP hD hS hc rfl (by unfold zk_scan; rw [e1]; exact hr1) (by unfold zc_scan; rw [e1, ← hN1]; exact hN2) dX9_scan_66
    · obtain ⟨kk, hk1⟩ : ∃ kk, k = kk + 1 := by
        cases k with
        | zero => exact absurd c_12 (by decide)
        | succ kk => exact ⟨kk, rfl⟩
      refine lv_aload_n hx hb dX9_scan_15 rfl (lv_at hl 0 rfl) ?_
      refine va_get (ci := 8) (v := .ref (o 5)) hx hb hts iX9 hown hK hP 8 rfl rfl 2 (by decide) (hts _ w_268) (fun _ h9 => h9) rfl dX9_scan_16 ?_
      refine za_ci (wc := zc_ws g o d1 X) (wr := []) C hP hD hS [0, 1, 2, 3, 4, 5, 6, 7, 8, 9, 10, 11, 12, 13, 14, 15, 16] [] rfl rfl (by decide) (by decide) (za_runV C hP hD hS [0, 1, 2, 3, 4, 5, 6, 7, 8, 9, 10, 11, 12, 13, 14, 15, 16] rfl (by decide) rfl (kX5_goesOn l g E o d1 X  hI ) w_341 mX5_goesOn 5 rfl rfl rfl rfl hl.1 rfl (Nat.le_of_ble_eq_true rfl) dX9_scan_19 ⟨Nat.le_of_ble_eq_true rfl, Nat.le_of_ble_eq_true rfl⟩ (hc.le0 (zc_L_le hI))) (fun r3 _ H locs hr3 hP hD hS => ?_)
      subst hr3
      have hP : va_P g.1 vwCl (zc_ws g o d1 X) H := hP
      have hD : va_D A (zc_ws g o d1 X) := hD
      refine lv_if_eq (tgt := 48) hx hb dX9_scan_22 (by decide) (fun c_22 => ?_) (fun c_22 => ?_)
      · have e1 : zc_scanL zk_F (zc_begin N) = X := by rw [hres, zc_scanL_s hk1, if_pos c_22]
        refine lv_aload_n hx hb dX9_scan_48 rfl (lv_at hl 0 rfl) ?_
        refine va_get (ci := 8) (v := .ref (o 5)) hx hb hts iX9 hown hK hP 8 rfl rfl 2 (by decide) (hts _ w_268) (fun _ h9 => h9) rfl dX9_scan_49 ?_
        refine zc_calli C hP hD hS hc (zl_finish) (zb_runV C hP hD hS [0, 1, 2, 3, 4, 5, 6, 7, 8, 9, 10, 11, 12, 13, 14, 15, 16] rfl (by decide) rfl (kX5_finish l g E o d1 X  hI ) w_654 mX5_finish 5 rfl rfl rfl rfl hl.1 rfl (Nat.le_of_ble_eq_true rfl) dX9_scan_52 ⟨Nat.le_of_ble_eq_true rfl, Nat.le_of_ble_eq_true rfl⟩ (hc.room (zc_L_le hI))) (fun r4 N4 d4 H locs cells slots hr4 hN4 hc hP hD hS => ?_)
        have hI : zc_I N4 := by rw [hN4]; exact zi_finish hI
        refine lv_istore_n (lv' := [(1, .int r4), (0, .ref (o 8))]) hx hb dX9_scan_55 rfl hl (by decide) rfl (fun ls hl => ?_)
        refine lv_aload_n hx hb dX9_scan_56 rfl (lv_at hl 1 rfl) ?_
        refine va_get (ci := 8) (v := .ref (o 6)) hx hb hts iX9 hown hK hP 8 rfl rfl 0 (by decide) (hts _ w_266) (fun _ h9 => h9) rfl dX9_scan_57 ?_
        refine lv_iconst (v := 0) hx hb dX9_scan_60 (by decide) ?_
        refine za_ci (wc := zc_ws g o d4 N4) (wr := []) C hP hD hS [0, 1, 2, 3, 4, 5, 6, 7, 8, 9, 10, 11, 12, 13, 14, 15, 16] [] rfl rfl (by decide) (by decide) (za_runV C hP hD hS [0, 1, 2, 3, 4, 5, 6, 7, 8, 9, 10, 11, 12, 13, 14, 15, 16] rfl (by decide) rfl (kX7_cutTo l g E o d4 N4 0 hI ) w_312 mX7_cutTo 6 rfl rfl rfl rfl hl.1 rfl (Nat.le_of_ble_eq_true rfl) dX9_scan_61 ⟨Nat.le_of_ble_eq_true rfl, Nat.le_of_ble_eq_true rfl⟩ (hc.le0 (zc_L_le hI))) (fun r5 N5 H locs hN5 hP hD hS => ?_)
        obtain ⟨hr5, hN5⟩ := hN5
        have hI : zc_I N5 := by rw [hN5]; exact zi_cutTo hI _
        have hc : zb_c N N5 cells slots := by rw [hN5]; exact hc.eq zL_cutTo
        have hP : va_P g.1 vwCl (zc_ws g o d4 N5) H := hP
        have hD : va_D A (zc_ws g o d4 N5) := hD
        refine lv_pop hx hb dX9_scan_64 rfl ?_
        refine lv_iload_n hx hb dX9_scan_65 rfl (lv_at hl 0 rfl) ?_
        exact zc_rig hQ hx hb hr hlocks hK hP hD hS hc rfl (by unfold zk_scan; rw [e1]; exact hr4) (by unfold zc_scan; rw [e1, ← hN4]; exact hN5) dX9_scan_66
      · refine lv_aload_n hx hb dX9_scan_25 rfl (lv_at hl 0 rfl) ?_
        refine va_get (ci := 8) (v := .ref (o 5)) hx hb hts iX9 hown hK hP 8 rfl rfl 2 (by decide) (hts _ w_268) (fun _ h9 => h9) rfl dX9_scan_26 ?_
        refine zc_calli C hP hD hS hc (zl_pass) (zb_runV C hP hD hS [0, 1, 2, 3, 4, 5, 6, 7, 8, 9, 10, 11, 12, 13, 14, 15, 16] rfl (by decide) rfl (kX5_passBetweenTokens l g E o d1 X  hI ) w_349 mX5_passBetweenTokens 5 rfl rfl rfl rfl hl.1 rfl (Nat.le_of_ble_eq_true rfl) dX9_scan_29 ⟨Nat.le_of_ble_eq_true rfl, Nat.le_of_ble_eq_true rfl⟩ (hc.room (zc_L_le hI))) (fun r6 N6 d6 H locs cells slots hr6 hN6 hc hP hD hS => ?_)
        have hI : zc_I N6 := by rw [hN6]; exact zi_pass hI
        refine lv_if_ne (tgt := 42) hx hb dX9_scan_32 (by decide) (fun c_32 => ?_) (fun c_32 => ?_)
        · refine lv_iinc (v := nI (65536 - kk)) (lv' := [(1, .int (nI (65536 - kk))), (0, .ref (o 8))]) hx hb dX9_scan_42 hl (k := 1) rfl ((nI_1 _).trans (congrArg nI (by omega))) (by decide) rfl (fun ls hl => ?_)
          refine lv_goto (tgt := 9) hx hb dX9_scan_45 (by decide) ?_
          exact ih kk N6 (by omega) (by rw [hres, zc_scanL_s hk1, if_neg c_22, ← hr6, if_neg c_32, ← hN6]) (by omega) d6 cells slots H locs ls hS hP hD hc hI (lv_sub hl [1, 0] rfl)
        · refine lv_aload_n hx hb dX9_scan_35 rfl (lv_at hl 0 rfl) ?_
          refine va_get (ci := 8) (v := .ref (o 5)) hx hb hts iX9 hown hK hP 8 rfl rfl 2 (by decide) (hts _ w_268) (fun _ h9 => h9) rfl dX9_scan_36 ?_
          refine zc_callv C hP hD hS hc (zl_readToken hI) (zb_runV C hP hD hS [0, 1, 2, 3, 4, 5, 6, 7, 8, 9, 10, 11, 12, 13, 14, 15, 16] rfl (by decide) rfl (kX5_readToken l g E o d6 N6  hI ) w_426 mX5_readToken 5 rfl rfl rfl rfl hl.1 rfl (Nat.le_of_ble_eq_true rfl) dX9_scan_39 ⟨Nat.le_of_ble_eq_true rfl, Nat.le_of_ble_eq_true rfl⟩ (hc.room (zc_L_le hI))) (fun N7 d7 H locs cells slots hN7 hc hP hD hS => ?_)
          have hI : zc_I N7 := by rw [hN7]; exact zi_readToken hI
          refine lv_iinc (v := nI (65536 - kk)) (lv' := [(1, .int (nI (65536 - kk))), (0, .ref (o 8))]) hx hb dX9_scan_42 hl (k := 1) rfl ((nI_1 _).trans (congrArg nI (by omega))) (by decide) rfl (fun ls hl => ?_)
          refine lv_goto (tgt := 9) hx hb dX9_scan_45 (by decide) ?_
          exact ih kk N7 (by omega) (by rw [hres, zc_scanL_s hk1, if_neg c_22, ← hr6, if_pos c_32, ← hN6, ← hN7]) (by omega) d7 cells slots H locs ls hS hP hD hc hI (lv_sub hl [1, 0] rfl)
set_option maxHeartbeats 4000000 in
set_option maxRecDepth 100000 in
theorem kX9_scan (l : Launch) (g : za_G) (E : za_E) (o d : Nat → Nat) (N : zc_N)  (hI : zc_I N) : zb_Ci l g E yX9_scan cX9_scan 2 ((some .int)) 8 (zc_rc N) (zc_rs N) (zc_L (zc_scan N) - zc_L N) (2 * (zc_L (zc_scan N) - zc_L N)) [.ref (o 8)] (zc_ws g o d N) (fun r (u : zc_N × (Nat → Nat)) => r = zk_scan N ∧ u.1 = zc_scan N) (fun u => zc_ws g o u.2 u.1) := by
  refine zb_begin (by decide) (Nat.le_of_ble_eq_true rfl) RX9 rfl ?_
  intro p e s m args below meth co A ls Q H locs C hQ hr hlocks hnm hS hP hD hl
  obtain ⟨hx, hb, hml, hown, hts, hK, hA, hE⟩ := id C
  have hl : lv_has ls 2 [(0, .ref (o 8))] := hl
  have hc : zb_c N N 0 0 := zb_c.rf
  revert hc
  refine (fun (z9 : ∀ cells slots : Nat, zb_c N N cells slots → W p l e (za_R 8 (zc_rc N) (zc_rs N)) s m args below meth co H locs cells slots Q (F0 m 0 ls [])) hc => z9 0 0 hc) (fun cells slots hc => ?_)
  refine lv_aload_n hx hb dX9_scan_0 rfl (lv_at hl 0 rfl) ?_
  refine va_get (ci := 8) (v := .ref (o 5)) hx hb hts iX9 hown hK hP 8 rfl rfl 2 (by decide) (hts _ w_268) (fun _ h9 => h9) rfl dX9_scan_1 ?_
  refine za_cv (wc := zc_ws g o d N) (wr := []) C hP hD hS [0, 1, 2, 3, 4, 5, 6, 7, 8, 9, 10, 11, 12, 13, 14, 15, 16] [] rfl rfl (by decide) (by decide) (za_runV C hP hD hS [0, 1, 2, 3, 4, 5, 6, 7, 8, 9, 10, 11, 12, 13, 14, 15, 16] rfl (by decide) rfl (kX5_begin l g E o d N  ) w_324 mX5_begin 5 rfl rfl rfl rfl hl.1 rfl (Nat.le_of_ble_eq_true rfl) dX9_scan_4 ⟨Nat.le_of_ble_eq_true rfl, Nat.le_of_ble_eq_true rfl⟩ (hc.le0 (zc_L_le hI))) (fun N1 H locs hN1 hP hD hS => ?_)
  have hI : zc_I N1 := by rw [hN1]; exact zi_begin hI
  have hc : zb_c N N1 cells slots := by rw [hN1]; exact hc.eq zL_begin
  have hP : va_P g.1 vwCl (zc_ws g o d N1) H := hP
  have hD : va_D A (zc_ws g o d N1) := hD
  refine lv_iconst (v := 0) hx hb dX9_scan_7 (by decide) ?_
  refine lv_istore_n (lv' := [(1, .int 0), (0, .ref (o 8))]) hx hb dX9_scan_8 rfl hl (by decide) rfl (fun ls hl => ?_)
  exact kL_scan l g E o d N C hQ hr hlocks _ 65536 N1 (Nat.le_refl _) (by rw [hN1]; rfl) (Nat.lt_succ_self _) d cells slots H locs ls hS hP hD hc hI (lv_sub hl [1, 0] rfl)
set_option maxHeartbeats 4000000 in
set_option maxRecDepth 100000 in
theorem kX9_feed (l : Launch) (g : za_G) (E : za_E) (o d : Nat → Nat) (N : zc_N) (a b c d5 e5 : Int32) (hI : zc_I N) : zb_Ci l g E yX9_feed cX9_feed 6 ((some .boolean)) 3 (zc_rc N) (zc_rs N) (zc_L (zc_feed N a b c d5 e5) - zc_L N) (2 * (zc_L (zc_feed N a b c d5 e5) - zc_L N)) [.ref (o 8), .int a, .int b, .int c, .int d5, .int e5] (zc_ws g o d N) (fun r (u : zc_N × (Nat → Nat)) => r = zk_feed N ∧ u.1 = zc_feed N a b c d5 e5) (fun u => zc_ws g o u.2 u.1) := by
  refine zb_begin (by decide) (Nat.le_of_ble_eq_true rfl) RX9 rfl ?_
  intro p e s m args below meth co A ls Q H locs C hQ hr hlocks hnm hS hP hD hl
  obtain ⟨hx, hb, hml, hown, hts, hK, hA, hE⟩ := id C
  have hl : lv_has ls 6 [(0, .ref (o 8)), (1, .int a), (2, .int b), (3, .int c), (4, .int d5), (5, .int e5)] := hl
  have hc : zb_c N N 0 0 := zb_c.rf
  revert hc
  refine (fun (z9 : ∀ cells slots : Nat, zb_c N N cells slots → W p l e (za_R 3 (zc_rc N) (zc_rs N)) s m args below meth co H locs cells slots Q (F0 m 0 ls [])) hc => z9 0 0 hc) (fun cells slots hc => ?_)
  refine lv_aload_n hx hb dX9_feed_0 rfl (lv_at hl 0 rfl) ?_
  refine va_get (ci := 8) (v := .ref (o 6)) hx hb hts iX9 hown hK hP 8 rfl rfl 0 (by decide) (hts _ w_266) (fun _ h9 => h9) rfl dX9_feed_1 ?_
  refine lv_bipush (v := 20) hx hb dX9_feed_4 (by decide) ?_
  refine zc_calli C hP hD hS hc (zl_makeRoom _) (zb_runV C hP hD hS [0, 1, 2, 3, 4, 5, 6, 7, 8, 9, 10, 11, 12, 13, 14, 15, 16] rfl (by decide) rfl (kX7_makeRoom l g E o d N 20 hI ) w_283 mX7_makeRoom 6 rfl rfl rfl rfl hl.1 rfl (Nat.le_of_ble_eq_true rfl) dX9_feed_6 ⟨Nat.le_of_ble_eq_true rfl, Nat.le_of_ble_eq_true rfl⟩ (hc.room (zc_L_le hI))) (fun r1 N1 d1 H locs cells slots hr1 hN1 hc hP hD hS => ?_)
  have hI : zc_I N1 := by rw [hN1]; exact zi_makeRoom hI _
  refine lv_if_ne (tgt := 14) hx hb dX9_feed_9 (by decide) (fun c_9 => ?_) (fun c_9 => ?_)
  · refine lv_aload_n hx hb dX9_feed_14 rfl (lv_at hl 0 rfl) ?_
    refine va_get (ci := 8) (v := .ref (o 6)) hx hb hts iX9 hown hK hP 8 rfl rfl 0 (by decide) (hts _ w_266) (fun _ h9 => h9) rfl dX9_feed_15 ?_
    refine lv_iload_n hx hb dX9_feed_18 rfl (lv_at hl 1 rfl) ?_
    refine za_cv (wc := zc_ws g o d1 N1) (wr := []) C hP hD hS [0, 1, 2, 3, 4, 5, 6, 7, 8, 9, 10, 11, 12, 13, 14, 15, 16] [] rfl rfl (by decide) (by decide) (za_runV C hP hD hS [0, 1, 2, 3, 4, 5, 6, 7, 8, 9, 10, 11, 12, 13, 14, 15, 16] rfl (by decide) rfl (kX7_appendFour l g E o d1 N1 a hI ) w_304 mX7_appendFour 6 rfl rfl rfl rfl hl.1 rfl (Nat.le_of_ble_eq_true rfl) dX9_feed_19 ⟨Nat.le_of_ble_eq_true rfl, Nat.le_of_ble_eq_true rfl⟩ (hc.le0 (zc_L_le hI))) (fun N2 H locs hN2 hP hD hS => ?_)
    have hI : zc_I N2 := by rw [hN2]; exact zi_four hI _
    have hc : zb_c N N2 cells slots := by rw [hN2]; exact hc.eq zL_four
    have hP : va_P g.1 vwCl (zc_ws g o d1 N2) H := hP
    have hD : va_D A (zc_ws g o d1 N2) := hD
    refine lv_aload_n hx hb dX9_feed_22 rfl (lv_at hl 0 rfl) ?_
    refine va_get (ci := 8) (v := .ref (o 6)) hx hb hts iX9 hown hK hP 8 rfl rfl 0 (by decide) (hts _ w_266) (fun _ h9 => h9) rfl dX9_feed_23 ?_
    refine lv_iload_n hx hb dX9_feed_26 rfl (lv_at hl 2 rfl) ?_
    refine za_cv (wc := zc_ws g o d1 N2) (wr := []) C hP hD hS [0, 1, 2, 3, 4, 5, 6, 7, 8, 9, 10, 11, 12, 13, 14, 15, 16] [] rfl rfl (by decide) (by decide) (za_runV C hP hD hS [0, 1, 2, 3, 4, 5, 6, 7, 8, 9, 10, 11, 12, 13, 14, 15, 16] rfl (by decide) rfl (kX7_appendFour l g E o d1 N2 b hI ) w_304 mX7_appendFour 6 rfl rfl rfl rfl hl.1 rfl (Nat.le_of_ble_eq_true rfl) dX9_feed_27 ⟨Nat.le_of_ble_eq_true rfl, Nat.le_of_ble_eq_true rfl⟩ (hc.le0 (zc_L_le hI))) (fun N3 H locs hN3 hP hD hS => ?_)
    have hI : zc_I N3 := by rw [hN3]; exact zi_four hI _
    have hc : zb_c N N3 cells slots := by rw [hN3]; exact hc.eq zL_four
    have hP : va_P g.1 vwCl (zc_ws g o d1 N3) H := hP
    have hD : va_D A (zc_ws g o d1 N3) := hD
    refine lv_aload_n hx hb dX9_feed_30 rfl (lv_at hl 0 rfl) ?_
    refine va_get (ci := 8) (v := .ref (o 6)) hx hb hts iX9 hown hK hP 8 rfl rfl 0 (by decide) (hts _ w_266) (fun _ h9 => h9) rfl dX9_feed_31 ?_
    refine lv_iload_n hx hb dX9_feed_34 rfl (lv_at hl 3 rfl) ?_
    refine za_cv (wc := zc_ws g o d1 N3) (wr := []) C hP hD hS [0, 1, 2, 3, 4, 5, 6, 7, 8, 9, 10, 11, 12, 13, 14, 15, 16] [] rfl rfl (by decide) (by decide) (za_runV C hP hD hS [0, 1, 2, 3, 4, 5, 6, 7, 8, 9, 10, 11, 12, 13, 14, 15, 16] rfl (by decide) rfl (kX7_appendFour l g E o d1 N3 c hI ) w_304 mX7_appendFour 6 rfl rfl rfl rfl hl.1 rfl (Nat.le_of_ble_eq_true rfl) dX9_feed_35 ⟨Nat.le_of_ble_eq_true rfl, Nat.le_of_ble_eq_true rfl⟩ (hc.le0 (zc_L_le hI))) (fun N4 H locs hN4 hP hD hS => ?_)
    have hI : zc_I N4 := by rw [hN4]; exact zi_four hI _
    have hc : zb_c N N4 cells slots := by rw [hN4]; exact hc.eq zL_four
    have hP : va_P g.1 vwCl (zc_ws g o d1 N4) H := hP
    have hD : va_D A (zc_ws g o d1 N4) := hD
    refine lv_aload_n hx hb dX9_feed_38 rfl (lv_at hl 0 rfl) ?_
    refine va_get (ci := 8) (v := .ref (o 6)) hx hb hts iX9 hown hK hP 8 rfl rfl 0 (by decide) (hts _ w_266) (fun _ h9 => h9) rfl dX9_feed_39 ?_
    refine lv_iload hx hb dX9_feed_42 (lv_at hl 4 rfl) ?_
    refine za_cv (wc := zc_ws g o d1 N4) (wr := []) C hP hD hS [0, 1, 2, 3, 4, 5, 6, 7, 8, 9, 10, 11, 12, 13, 14, 15, 16] [] rfl rfl (by decide) (by decide) (za_runV C hP hD hS [0, 1, 2, 3, 4, 5, 6, 7, 8, 9, 10, 11, 12, 13, 14, 15, 16] rfl (by decide) rfl (kX7_appendFour l g E o d1 N4 d5 hI ) w_304 mX7_appendFour 6 rfl rfl rfl rfl hl.1 rfl (Nat.le_of_ble_eq_true rfl) dX9_feed_44 ⟨Nat.le_of_ble_eq_true rfl, Nat.le_of_ble_eq_true rfl⟩ (hc.le0 (zc_L_le hI))) (fun N5 H locs hN5 hP hD hS => ?_)
    have hI : zc_I N5 := by rw [hN5]; exact zi_four hI _
    have hc : zb_c N N5 cells slots := by rw [hN5]; exact hc.eq zL_four
    have hP : va_P g.1 vwCl (zc_ws g o d1 N5) H := hP
    have hD : va_D A (zc_ws g o d1 N5) := hD
    refine lv_aload_n hx hb dX9_feed_47 rfl (lv_at hl 0 rfl) ?_
    refine va_get (ci := 8) (v := .ref (o 6)) hx hb hts iX9 hown hK hP 8 rfl rfl 0 (by decide) (hts _ w_266) (fun _ h9 => h9) rfl dX9_feed_48 ?_
    refine lv_iload hx hb dX9_feed_51 (lv_at hl 5 rfl) ?_
    refine za_cv (wc := zc_ws g o d1 N5) (wr := []) C hP hD hS [0, 1, 2, 3, 4, 5, 6, 7, 8, 9, 10, 11, 12, 13, 14, 15, 16] [] rfl rfl (by decide) (by decide) (za_runV C hP hD hS [0, 1, 2, 3, 4, 5, 6, 7, 8, 9, 10, 11, 12, 13, 14, 15, 16] rfl (by decide) rfl (kX7_appendFour l g E o d1 N5 e5 hI ) w_304 mX7_appendFour 6 rfl rfl rfl rfl hl.1 rfl (Nat.le_of_ble_eq_true rfl) dX9_feed_53 ⟨Nat.le_of_ble_eq_true rfl, Nat.le_of_ble_eq_true rfl⟩ (hc.le0 (zc_L_le hI))) (fun N6 H locs hN6 hP hD hS => ?_)
    have hI : zc_I N6 := by rw [hN6]; exact zi_four hI _
    have hc : zb_c N N6 cells slots := by rw [hN6]; exact hc.eq zL_four
    have hP : va_P g.1 vwCl (zc_ws g o d1 N6) H := hP
    have hD : va_D A (zc_ws g o d1 N6) := hD
    refine lv_iconst (v := 1) hx hb dX9_feed_56 (by decide) ?_
    exact zc_rig hQ hx hb hr hlocks hK hP hD hS hc rfl (by unfold zk_feed; rw [← hr1, if_neg c_9]) (by unfold zc_feed; rw [← hr1, if_neg c_9]; rw [← hN1, ← hN2, ← hN3, ← hN4, ← hN5]; exact hN6) dX9_feed_57
  · refine lv_iconst (v := 0) hx hb dX9_feed_12 (by decide) ?_
    exact zc_rig hQ hx hb hr hlocks hK hP hD hS hc rfl (by unfold zk_feed; rw [← hr1, if_pos c_9]) (by unfold zc_feed; rw [← hr1, if_pos c_9]; exact hN1) dX9_feed_13
set_option maxHeartbeats 4000000 in
set_option maxRecDepth 100000 in
theorem kX9_end (l : Launch) (g : za_G) (E : za_E) (o d : Nat → Nat) (N : zc_N) (n : Int32) (hI : zc_I N) : za_Ci l g E yX9_end cX9_end 2 ((some .boolean)) 1 0 0 [.ref (o 8), .int n] (zc_ws g o d N) (fun r (u : zc_N) => r = zk_cutTo N n ∧ u = zc_cutTo N n) (fun u => zc_ws g o d u) := by
  refine za_begin (by decide) (Nat.le_of_ble_eq_true rfl) RX9 rfl ?_
  intro p e s m args below meth co A ls Q H locs C hQ hr hlocks hnm hS hP hD hl
  obtain ⟨hx, hb, hml, hown, hts, hK, hA, hE⟩ := id C
  have hl : lv_has ls 2 [(0, .ref (o 8)), (1, .int n)] := hl
  refine lv_aload_n hx hb dX9_end_0 rfl (lv_at hl 0 rfl) ?_
  refine va_get (ci := 8) (v := .ref (o 6)) hx hb hts iX9 hown hK hP 8 rfl rfl 0 (by decide) (hts _ w_266) (fun _ h9 => h9) rfl dX9_end_1 ?_
  refine lv_iload_n hx hb dX9_end_4 rfl (lv_at hl 1 rfl) ?_
  refine za_ci (wc := zc_ws g o d N) (wr := []) C hP hD hS [0, 1, 2, 3, 4, 5, 6, 7, 8, 9, 10, 11, 12, 13, 14, 15, 16] [] rfl rfl (by decide) (by decide) (za_runV C hP hD hS [0, 1, 2, 3, 4, 5, 6, 7, 8, 9, 10, 11, 12, 13, 14, 15, 16] rfl (by decide) rfl (kX7_cutTo l g E o d N n hI ) w_312 mX7_cutTo 6 rfl rfl rfl rfl hl.1 rfl (Nat.le_of_ble_eq_true rfl) dX9_end_5 ⟨Nat.le_of_ble_eq_true rfl, Nat.le_of_ble_eq_true rfl⟩ ⟨Nat.le_refl _, Nat.le_refl _⟩) (fun r1 N1 H locs hN1 hP hD hS => ?_)
  obtain ⟨hr1, hN1⟩ := hN1
  have hI : zc_I N1 := by rw [hN1]; exact zi_cutTo hI _
  have hP : va_P g.1 vwCl (zc_ws g o d N1) H := hP
  have hD : va_D A (zc_ws g o d N1) := hD
  subst hN1
  subst hr1
  exact zc_riw hQ hx hb hr hlocks hK hP hD hS (z_nar01 (zk_cutTo_01 _ _)) (by simp [zq_upd]) (by simp [zq_upd]) (Nat.le_refl _) (Nat.le_refl _) dX9_end_8
set_option maxHeartbeats 4000000 in
set_option maxRecDepth 100000 in
theorem kX9_size (l : Launch) (g : za_G) (E : za_E) (o d : Nat → Nat) (N : zc_N)  (hI : zc_I N) : za_Ci l g E yX9_size cX9_size 1 ((some .int)) 0 0 0 [.ref (o 8)] (zc_ws g o d N) (fun r (_ : Unit) => r = N.1 61) (fun _ => zc_ws g o d N) := by
  refine za_begin (by decide) (Nat.le_of_ble_eq_true rfl) RX9 rfl ?_
  intro p e s m args below meth co A ls Q H locs C hQ hr hlocks hnm hS hP hD hl
  obtain ⟨hx, hb, hml, hown, hts, hK, hA, hE⟩ := id C
  have hl : lv_has ls 1 [(0, .ref (o 8))] := hl
  refine lv_aload_n hx hb dX9_size_0 rfl (lv_at hl 0 rfl) ?_
  refine va_get (ci := 8) (v := .ref (o 6)) hx hb hts iX9 hown hK hP 8 rfl rfl 0 (by decide) (hts _ w_266) (fun _ h9 => h9) rfl dX9_size_1 ?_
  refine va_get (ci := 6) (v := .int (N.1 61)) hx hb hts iX7 hown hK hP 6 rfl rfl 1 (by decide) (hts _ w_95) (fun _ h9 => h9) rfl dX9_size_4 ?_
  exact zc_ri hQ hx hb hr hlocks hK hP hD hS rfl (by first | rfl | simp [zq_upd]) (Nat.le_refl _) (Nat.le_refl _) dX9_size_7
set_option maxHeartbeats 4000000 in
set_option maxRecDepth 100000 in
theorem kX9_count (l : Launch) (g : za_G) (E : za_E) (o d : Nat → Nat) (N : zc_N)  (hI : zc_I N) : za_Ci l g E yX9_count cX9_count 1 ((some .int)) 0 0 0 [.ref (o 8)] (zc_ws g o d N) (fun r (_ : Unit) => r = N.1 71) (fun _ => zc_ws g o d N) := by
  refine za_begin (by decide) (Nat.le_of_ble_eq_true rfl) RX9 rfl ?_
  intro p e s m args below meth co A ls Q H locs C hQ hr hlocks hnm hS hP hD hl
  obtain ⟨hx, hb, hml, hown, hts, hK, hA, hE⟩ := id C
  have hl : lv_has ls 1 [(0, .ref (o 8))] := hl
  refine lv_aload_n hx hb dX9_count_0 rfl (lv_at hl 0 rfl) ?_
  refine va_get (ci := 8) (v := .ref (o 7)) hx hb hts iX9 hown hK hP 8 rfl rfl 1 (by decide) (hts _ w_267) (fun _ h9 => h9) rfl dX9_count_1 ?_
  refine va_get (ci := 7) (v := .int (N.1 71)) hx hb hts iX8 hown hK hP 7 rfl rfl 1 (by decide) (hts _ w_170) (fun _ h9 => h9) rfl dX9_count_4 ?_
  exact zc_ri hQ hx hb hr hlocks hK hP hD hS rfl (by first | rfl | simp [zq_upd]) (Nat.le_refl _) (Nat.le_refl _) dX9_count_7
set_option maxHeartbeats 4000000 in
set_option maxRecDepth 100000 in
theorem kX9_names (l : Launch) (g : za_G) (E : za_E) (o d : Nat → Nat) (N : zc_N)  (hI : zc_I N) : za_Ci l g E yX9_names cX9_names 1 ((some .int)) 0 0 0 [.ref (o 8)] (zc_ws g o d N) (fun r (_ : Unit) => r = N.1 24) (fun _ => zc_ws g o d N) := by
  refine za_begin (by decide) (Nat.le_of_ble_eq_true rfl) RX9 rfl ?_
  intro p e s m args below meth co A ls Q H locs C hQ hr hlocks hnm hS hP hD hl
  obtain ⟨hx, hb, hml, hown, hts, hK, hA, hE⟩ := id C
  have hl : lv_has ls 1 [(0, .ref (o 8))] := hl
  refine lv_aload_n hx hb dX9_names_0 rfl (lv_at hl 0 rfl) ?_
  refine va_get (ci := 8) (v := .ref (o 7)) hx hb hts iX9 hown hK hP 8 rfl rfl 1 (by decide) (hts _ w_267) (fun _ h9 => h9) rfl dX9_names_1 ?_
  refine va_get (ci := 7) (v := .ref (o 2)) hx hb hts iX8 hown hK hP 7 rfl rfl 3 (by decide) (hts _ w_176) (fun _ h9 => h9) rfl dX9_names_4 ?_
  refine va_get (ci := 2) (v := .int (N.1 24)) hx hb hts iX2 hown hK hP 2 rfl rfl 4 (by decide) (hts _ w_155) (fun _ h9 => h9) rfl dX9_names_7 ?_
  exact zc_ri hQ hx hb hr hlocks hK hP hD hS rfl (by first | rfl | simp [zq_upd]) (Nat.le_refl _) (Nat.le_refl _) dX9_names_10
set_option maxHeartbeats 4000000 in
set_option maxRecDepth 100000 in
theorem kX9_firstOf (l : Launch) (g : za_G) (E : za_E) (o d : Nat → Nat) (N : zc_N) (n : Int32) (hI : zc_I N) : za_Ci l g E yX9_firstOf cX9_firstOf 2 ((some .int)) 1 0 0 [.ref (o 8), .int n] (zc_ws g o d N) (fun r (_ : Unit) => r = zk_first N n) (fun _ => zc_ws g o d N) := by
  refine za_begin (by decide) (Nat.le_of_ble_eq_true rfl) RX9 rfl ?_
  intro p e s m args below meth co A ls Q H locs C hQ hr hlocks hnm hS hP hD hl
  obtain ⟨hx, hb, hml, hown, hts, hK, hA, hE⟩ := id C
  have hl : lv_has ls 2 [(0, .ref (o 8)), (1, .int n)] := hl
  refine lv_aload_n hx hb dX9_firstOf_0 rfl (lv_at hl 0 rfl) ?_
  refine va_get (ci := 8) (v := .ref (o 7)) hx hb hts iX9 hown hK hP 8 rfl rfl 1 (by decide) (hts _ w_267) (fun _ h9 => h9) rfl dX9_firstOf_1 ?_
  refine va_get (ci := 7) (v := .ref (o 2)) hx hb hts iX8 hown hK hP 7 rfl rfl 3 (by decide) (hts _ w_176) (fun _ h9 => h9) rfl dX9_firstOf_4 ?_
  refine lv_iload_n hx hb dX9_firstOf_7 rfl (lv_at hl 1 rfl) ?_
  refine za_ci (wc := zc_ws g o d N) (wr := []) C hP hD hS [0, 1, 2, 3, 4, 5, 6, 7, 8, 9, 10, 11, 12, 13, 14, 15, 16] [] rfl rfl (by decide) (by decide) (za_runV C hP hD hS [0, 1, 2, 3, 4, 5, 6, 7, 8, 9, 10, 11, 12, 13, 14, 15, 16] rfl (by decide) rfl (kX2_firstToken l g E o d N n hI ) w_670 mX2_firstToken 2 rfl rfl rfl rfl hl.1 rfl (Nat.le_of_ble_eq_true rfl) dX9_firstOf_8 ⟨Nat.le_of_ble_eq_true rfl, Nat.le_of_ble_eq_true rfl⟩ ⟨Nat.le_refl _, Nat.le_refl _⟩) (fun r1 _ H locs hr1 hP hD hS => ?_)
  subst hr1
  have hP : va_P g.1 vwCl (zc_ws g o d N) H := hP
  have hD : va_D A (zc_ws g o d N) := hD
  exact zc_ri hQ hx hb hr hlocks hK hP hD hS rfl (by first | rfl | simp [zq_upd]) (Nat.le_refl _) (Nat.le_refl _) dX9_firstOf_11
set_option maxHeartbeats 4000000 in
set_option maxRecDepth 100000 in
theorem kX8_byteOfToken (l : Launch) (g : za_G) (E : za_E) (o d : Nat → Nat) (N : zc_N) (k i : Int32) (hI : zc_I N) : za_Ci l g E yX8_byteOfToken cX8_byteOfToken 4 ((some .int)) 2 0 0 [.ref (o 7), .int k, .int i] (zc_ws g o d N) (fun r (_ : Unit) => r = zk_byteOf N k i) (fun _ => zc_ws g o d N) := by
  refine za_begin (by decide) (Nat.le_of_ble_eq_true rfl) RX8 rfl ?_
  intro p e s m args below meth co A ls Q H locs C hQ hr hlocks hnm hS hP hD hl
  obtain ⟨hx, hb, hml, hown, hts, hK, hA, hE⟩ := id C
  have hl : lv_has ls 4 [(0, .ref (o 7)), (1, .int k), (2, .int i)] := hl
  refine lv_iload_n hx hb dX8_byteOfToken_0 rfl (lv_at hl 2 rfl) ?_
  refine lv_if_lt (tgt := 19) hx hb dX8_byteOfToken_1 (by decide) (fun c_1 => ?_) (fun c_1 => ?_)
  · refine lv_iconst (v := 0) hx hb dX8_byteOfToken_19 (by decide) ?_
    refine lv_istore_n (lv' := [(3, .int 0), (0, .ref (o 7)), (1, .int k), (2, .int i)]) hx hb dX8_byteOfToken_20 rfl hl (by decide) rfl (fun ls hl => ?_)
    refine lv_iload_n hx hb dX8_byteOfToken_21 rfl (lv_at hl 0 rfl) ?_
    refine lv_if_eq (tgt := 44) hx hb dX8_byteOfToken_22 (by decide) (fun c_22 => ?_) (fun c_22 => ?_)
    · refine lv_iconst (v := (-1)) hx hb dX8_byteOfToken_44 (by decide) ?_
      exact zc_ri hQ hx hb hr hlocks hK hP hD hS rfl (by simp [zk_byteOf, zq_upd, c_1, eq_true c_22]) (Nat.le_refl _) (Nat.le_refl _) dX8_byteOfToken_45
    · exact absurd c_22 (by decide)
  · refine lv_iload_n hx hb dX8_byteOfToken_4 rfl (lv_at hl 2 rfl) ?_
    refine lv_aload_n hx hb dX8_byteOfToken_5 rfl (lv_at hl 0 rfl) ?_
    refine lv_iload_n hx hb dX8_byteOfToken_6 rfl (lv_at hl 1 rfl) ?_
    refine lv_bipush (v := 8) hx hb dX8_byteOfToken_7 (by decide) ?_
    refine za_ci (wc := zc_ws g o d N) (wr := []) C hP hD hS [0, 1, 2, 3, 4, 5, 6, 7, 8, 9, 10, 11, 12, 13, 14, 15, 16] [] rfl rfl (by decide) (by decide) (za_runV C hP hD hS [0, 1, 2, 3, 4, 5, 6, 7, 8, 9, 10, 11, 12, 13, 14, 15, 16] rfl (by decide) rfl (kX8_fact l g E o d N k 8 hI ) w_757 mX8_fact 7 rfl rfl rfl rfl hl.1 rfl (Nat.le_of_ble_eq_true rfl) dX8_byteOfToken_9 ⟨Nat.le_of_ble_eq_true rfl, Nat.le_of_ble_eq_true rfl⟩ ⟨Nat.le_refl _, Nat.le_refl _⟩) (fun r1 _ H locs hr1 hP hD hS => ?_)
    subst hr1
    have hP : va_P g.1 vwCl (zc_ws g o d N) H := hP
    have hD : va_D A (zc_ws g o d N) := hD
    refine za_icmp_ge (tgt := 19) hx hb dX8_byteOfToken_12 (by decide) (fun c_12 => ?_) (fun c_12 => ?_)
    · refine lv_iconst (v := 0) hx hb dX8_byteOfToken_19 (by decide) ?_
      refine lv_istore_n (lv' := [(3, .int 0), (0, .ref (o 7)), (1, .int k), (2, .int i)]) hx hb dX8_byteOfToken_20 rfl hl (by decide) rfl (fun ls hl => ?_)
      refine lv_iload_n hx hb dX8_byteOfToken_21 rfl (lv_at hl 0 rfl) ?_
      refine lv_if_eq (tgt := 44) hx hb dX8_byteOfToken_22 (by decide) (fun c_22 => ?_) (fun c_22 => ?_)
      · refine lv_iconst (v := (-1)) hx hb dX8_byteOfToken_44 (by decide) ?_
        exact zc_ri hQ hx hb hr hlocks hK hP hD hS rfl (by simp [zk_byteOf, zq_upd, c_1, c_12, eq_true c_22]) (Nat.le_refl _) (Nat.le_refl _) dX8_byteOfToken_45
      · exact absurd c_22 (by decide)
    · refine lv_iconst (v := 1) hx hb dX8_byteOfToken_15 (by decide) ?_
      refine lv_goto (tgt := 20) hx hb dX8_byteOfToken_16 (by decide) ?_
      refine lv_istore_n (lv' := [(3, .int 1), (0, .ref (o 7)), (1, .int k), (2, .int i)]) hx hb dX8_byteOfToken_20 rfl hl (by decide) rfl (fun ls hl => ?_)
      refine lv_iload_n hx hb dX8_byteOfToken_21 rfl (lv_at hl 0 rfl) ?_
      refine lv_if_eq (tgt := 44) hx hb dX8_byteOfToken_22 (by decide) (fun c_22 => ?_) (fun c_22 => ?_)
      · exact absurd c_22 (by decide)
      · refine lv_aload_n hx hb dX8_byteOfToken_25 rfl (lv_at hl 1 rfl) ?_
        refine va_get (ci := 7) (v := .ref (o 0)) hx hb hts iX8 hown hK hP 7 rfl rfl 2 (by decide) (hts _ w_171) (fun _ h9 => h9) rfl dX8_byteOfToken_26 ?_
        refine lv_aload_n hx hb dX8_byteOfToken_29 rfl (lv_at hl 1 rfl) ?_
        refine lv_iload_n hx hb dX8_byteOfToken_30 rfl (lv_at hl 2 rfl) ?_
        refine lv_bipush (v := 9) hx hb dX8_byteOfToken_31 (by decide) ?_
        refine za_ci (wc := zc_ws g o d N) (wr := []) C hP hD hS [0, 1, 2, 3, 4, 5, 6, 7, 8, 9, 10, 11, 12, 13, 14, 15, 16] [] rfl rfl (by decide) (by decide) (za_runV C hP hD hS [0, 1, 2, 3, 4, 5, 6, 7, 8, 9, 10, 11, 12, 13, 14, 15, 16] rfl (by decide) rfl (kX8_fact l g E o d N k 9 hI ) w_757 mX8_fact 7 rfl rfl rfl rfl hl.1 rfl (Nat.le_of_ble_eq_true rfl) dX8_byteOfToken_33 ⟨Nat.le_of_ble_eq_true rfl, Nat.le_of_ble_eq_true rfl⟩ ⟨Nat.le_refl _, Nat.le_refl _⟩) (fun r2 _ H locs hr2 hP hD hS => ?_)
        subst hr2
        have hP : va_P g.1 vwCl (zc_ws g o d N) H := hP
        have hD : va_D A (zc_ws g o d N) := hD
        refine lv_iload_n hx hb dX8_byteOfToken_36 rfl (lv_at hl 3 rfl) ?_
        refine lv_iadd hx hb dX8_byteOfToken_37 ?_
        refine za_ci (wc := zc_ws g o d N) (wr := []) C hP hD hS [0, 1, 2, 3, 4, 5, 6, 7, 8, 9, 10, 11, 12, 13, 14, 15, 16] [] rfl rfl (by decide) (by decide) (za_runV C hP hD hS [0, 1, 2, 3, 4, 5, 6, 7, 8, 9, 10, 11, 12, 13, 14, 15, 16] rfl (by decide) rfl (kX0_byteAt l g E o d N ((zk_fact N k 9) + i) hI ) w_758 mX0_byteAt 0 rfl rfl rfl rfl hl.1 rfl (Nat.le_of_ble_eq_true rfl) dX8_byteOfToken_38 ⟨Nat.le_of_ble_eq_true rfl, Nat.le_of_ble_eq_true rfl⟩ ⟨Nat.le_refl _, Nat.le_refl _⟩) (fun r3 _ H locs hr3 hP hD hS => ?_)
        subst hr3
        have hP : va_P g.1 vwCl (zc_ws g o d N) H := hP
        have hD : va_D A (zc_ws g o d N) := hD
        refine lv_goto (tgt := 45) hx hb dX8_byteOfToken_41 (by decide) ?_
        exact zc_ri hQ hx hb hr hlocks hK hP hD hS rfl (by simp [zk_byteOf, zq_upd, c_1, c_12, c_22]) (Nat.le_refl _) (Nat.le_refl _) dX8_byteOfToken_45
set_option maxHeartbeats 4000000 in
set_option maxRecDepth 100000 in
theorem kX1_firstDigit (l : Launch) (g : za_G) (E : za_E) (o d : Nat → Nat) (N : zc_N) (k : Int32) (hI : zc_I N) : za_Ci l g E yX1_firstDigit cX1_firstDigit 2 ((some .int)) 3 0 0 [.ref (o 1), .int k] (zc_ws g o d N) (fun r (_ : Unit) => r = zk_fd N k) (fun _ => zc_ws g o d N) := by
  refine za_begin (by decide) (Nat.le_of_ble_eq_true rfl) RX1 rfl ?_
  intro p e s m args below meth co A ls Q H locs C hQ hr hlocks hnm hS hP hD hl
  obtain ⟨hx, hb, hml, hown, hts, hK, hA, hE⟩ := id C
  have hl : lv_has ls 2 [(0, .ref (o 1)), (1, .int k)] := hl
  refine lv_aload_n hx hb dX1_firstDigit_0 rfl (lv_at hl 0 rfl) ?_
  refine va_get (ci := 1) (v := .ref (o 7)) hx hb hts iX1 hown hK hP 1 rfl rfl 0 (by decide) (hts _ w_255) (fun _ h9 => h9) rfl dX1_firstDigit_1 ?_
  refine lv_iload_n hx hb dX1_firstDigit_4 rfl (lv_at hl 1 rfl) ?_
  refine lv_iconst (v := 1) hx hb dX1_firstDigit_5 (by decide) ?_
  refine za_ci (wc := zc_ws g o d N) (wr := []) C hP hD hS [0, 1, 2, 3, 4, 5, 6, 7, 8, 9, 10, 11, 12, 13, 14, 15, 16] [] rfl rfl (by decide) (by decide) (za_runV C hP hD hS [0, 1, 2, 3, 4, 5, 6, 7, 8, 9, 10, 11, 12, 13, 14, 15, 16] rfl (by decide) rfl (kX8_byteOfToken l g E o d N k 1 hI ) w_781 mX8_byteOfToken 7 rfl rfl rfl rfl hl.1 rfl (Nat.le_of_ble_eq_true rfl) dX1_firstDigit_6 ⟨Nat.le_of_ble_eq_true rfl, Nat.le_of_ble_eq_true rfl⟩ ⟨Nat.le_refl _, Nat.le_refl _⟩) (fun r1 _ H locs hr1 hP hD hS => ?_)
  subst hr1
  have hP : va_P g.1 vwCl (zc_ws g o d N) H := hP
  have hD : va_D A (zc_ws g o d N) := hD
  refine lv_bipush (v := 57) hx hb dX1_firstDigit_9 (by decide) ?_
  refine za_icmp_le (tgt := 18) hx hb dX1_firstDigit_11 (by decide) (fun c_11 => ?_) (fun c_11 => ?_)
  · refine lv_iconst (v := 0) hx hb dX1_firstDigit_18 (by decide) ?_
    exact zc_ri hQ hx hb hr hlocks hK hP hD hS rfl (by simp [zk_fd, zq_upd, c_11]) (Nat.le_refl _) (Nat.le_refl _) dX1_firstDigit_19
  · refine lv_iconst (v := 2) hx hb dX1_firstDigit_14 (by decide) ?_
    refine lv_goto (tgt := 19) hx hb dX1_firstDigit_15 (by decide) ?_
    exact zc_ri hQ hx hb hr hlocks hK hP hD hS rfl (by simp [zk_fd, zq_upd, c_11]) (Nat.le_refl _) (Nat.le_refl _) dX1_firstDigit_19
set_option maxHeartbeats 4000000 in
set_option maxRecDepth 100000 in
theorem kL_low (l : Launch) (g : za_G) (E : za_E) (o d : Nat → Nat) (N : zc_N) (k : Int32)  {p : Program} {e : Env} {s : State} {m : MethodId} {args : Array Value} {below : List Frame} {meth : Method} {co : Code} {A : Nat → Prop} {Q : State → Prop} (C : za_H p s m args co cX1_lowBits 7 RX1 g E A) (hQ : Q = MQ below (za_ql g (fun r (_ : Unit) => r = zk_lowBits N k) (fun _ => zc_ws g o d N) A) args s 0 0 A) (hr : meth.sig.returnType = (some .long)) (hlocks : meth.locks = false)  : ∀ (n_ : Nat) (i : Nat) (v : Int64), (i ≤ 2 ∨ i ≤ (zk_fact N k 8).toNatClampNeg) → (zk_lowBits N k = zk_lows N k (zk_fact N k 7) ((zk_fact N k 8).toNatClampNeg - i) i v) → (zk_fact N k 8).toNatClampNeg - i < n_ → ∀ (H : Heap) (locs : List Loc) (ls : Array Slot), va_S A s.heap H locs → va_P g.1 vwCl (zc_ws g o d N) H → va_D A (zc_ws g o d N) → zc_I N → lv_has ls 7 [(0, .ref (o 1)), (1, .int k), (2, .int (zk_fact N k 7)), (3, .int (zk_fact N k 8)), (4, .long v), (6, .int (nI i))] → W p l e (za_R 4 0 0) s m args below meth co H locs 0 0 Q (F0 m 32 ls []) := by
  obtain ⟨hx, hb, hml, hown, hts, hK, hA, hE⟩ := id C
  intro n_
  induction n_ with
  | zero => intro i v hi hres hm; exact absurd hm (Nat.not_lt_zero _)
  | succ n_ ih =>
    intro i v hi hres hm H locs ls hS hP hD hI hl
    have hc9 := z_clt (zk_fact N k 8)
    refine lv_iload hx hb dX1_lowBits_32 (lv_at hl 5 rfl) ?_
    refine lv_iload_n hx hb dX1_lowBits_34 rfl (lv_at hl 3 rfl) ?_
    refine za_icmp_ge (tgt := 67) hx hb dX1_lowBits_35 (by decide) (fun c_35 => ?_) (fun c_35 => ?_)
    · refine lv_lload hx hb dX1_lowBits_67 (lv_at hl 4 rfl) ?_
      exact zc_rl hQ hx hb hr hlocks hK hP hD hS (by rw [hres, zk_lows_z (by rcases Nat.lt_or_ge i (zk_fact N k 8).toNatClampNeg with q | q; exact absurd ((z_ltc (by omega)).mpr q) c_35; omega)]) (Nat.le_refl _) (Nat.le_refl _) dX1_lowBits_69
    · have hlt : i < (zk_fact N k 8).toNatClampNeg := (z_ltc (by omega)).mp c_35
      refine lv_lload hx hb dX1_lowBits_38 (lv_at hl 4 rfl) ?_
      refine lv_iload_n hx hb dX1_lowBits_40 rfl (lv_at hl 2 rfl) ?_
      refine lv_i2l (v := (zk_fact N k 7).toInt64) hx hb dX1_lowBits_41 rfl ?_
      refine lv_lmul hx hb dX1_lowBits_42 ?_
      refine lv_aload_n hx hb dX1_lowBits_43 rfl (lv_at hl 0 rfl) ?_
      refine va_get (ci := 1) (v := .ref (o 7)) hx hb hts iX1 hown hK hP 1 rfl rfl 0 (by decide) (hts _ w_255) (fun _ h9 => h9) rfl dX1_lowBits_44 ?_
      refine lv_iload_n hx hb dX1_lowBits_47 rfl (lv_at hl 1 rfl) ?_
      refine lv_iload hx hb dX1_lowBits_48 (lv_at hl 5 rfl) ?_
      refine za_ci (wc := zc_ws g o d N) (wr := []) C hP hD hS [0, 1, 2, 3, 4, 5, 6, 7, 8, 9, 10, 11, 12, 13, 14, 15, 16] [] rfl rfl (by decide) (by decide) (za_runV C hP hD hS [0, 1, 2, 3, 4, 5, 6, 7, 8, 9, 10, 11, 12, 13, 14, 15, 16] rfl (by decide) rfl (kX8_byteOfToken l g E o d N k (nI i) hI ) w_781 mX8_byteOfToken 7 rfl rfl rfl rfl hl.1 rfl (Nat.le_of_ble_eq_true rfl) dX1_lowBits_50 ⟨Nat.le_of_ble_eq_true rfl, Nat.le_of_ble_eq_true rfl⟩ ⟨Nat.le_refl _, Nat.le_refl _⟩) (fun r1 _ H locs hr1 hP hD hS => ?_)
      subst hr1
      have hP : va_P g.1 vwCl (zc_ws g o d N) H := hP
      have hD : va_D A (zc_ws g o d N) := hD
      refine lv_iload_n hx hb dX1_lowBits_53 rfl (lv_at hl 2 rfl) ?_
      refine za_ci (wc := []) (wr := zc_ws g o d N) C hP hD hS [] [0, 1, 2, 3, 4, 5, 6, 7, 8, 9, 10, 11, 12, 13, 14, 15, 16] rfl rfl (by decide) (by decide) (za_runSN C hP hD hS [] rfl (by decide) rfl (kX9_digitOf l g E (zk_byteOf N k (nI i)) (zk_fact N k 7) ) zn_X1_36 mX9_digitOf rfl hl.1 rfl (Nat.le_of_ble_eq_true rfl) dX1_lowBits_54 ⟨Nat.le_of_ble_eq_true rfl, Nat.le_of_ble_eq_true rfl⟩ ⟨Nat.le_refl _, Nat.le_refl _⟩) (fun r2 _ H locs hr2 hP hD hS => ?_)
      subst hr2
      have hP : va_P g.1 vwCl (zc_ws g o d N) H := hP
      have hD : va_D A (zc_ws g o d N) := hD
      refine lv_i2l (v := (zk_digitOf (zk_byteOf N k (nI i)) (zk_fact N k 7)).toInt64) hx hb dX1_lowBits_57 rfl ?_
      refine lv_ladd hx hb dX1_lowBits_58 ?_
      refine lv_lstore (lv' := [(4, .long ((v * ((zk_fact N k 7).toInt64)) + ((zk_digitOf (zk_byteOf N k (nI i)) (zk_fact N k 7)).toInt64))), (0, .ref (o 1)), (1, .int k), (2, .int (zk_fact N k 7)), (3, .int (zk_fact N k 8)), (6, .int (nI i))]) hx hb dX1_lowBits_59 hl (by decide) rfl (fun ls hl => ?_)
      refine lv_iinc (v := nI (i + 1)) (lv' := [(6, .int (nI (i + 1))), (4, .long ((v * ((zk_fact N k 7).toInt64)) + ((zk_digitOf (zk_byteOf N k (nI i)) (zk_fact N k 7)).toInt64))), (0, .ref (o 1)), (1, .int k), (2, .int (zk_fact N k 7)), (3, .int (zk_fact N k 8))]) hx hb dX1_lowBits_61 hl (k := 5) rfl (nI_1 _) (by decide) rfl (fun ls hl => ?_)
      refine lv_goto (tgt := 32) hx hb dX1_lowBits_64 (by decide) ?_
      exact ih (i + 1) (v * (zk_fact N k 7).toInt64 + (zk_digitOf (zk_byteOf N k (nI i)) (zk_fact N k 7)).toInt64) (by omega) (by rw [hres, zk_lows_s (j := (zk_fact N k 8).toNatClampNeg - (i + 1)) (by omega)]) (by omega) H locs ls hS hP hD hI (lv_sub hl [2, 3, 4, 5, 1, 0] rfl)
set_option maxHeartbeats 4000000 in
set_option maxRecDepth 100000 in
theorem kX1_lowBits (l : Launch) (g : za_G) (E : za_E) (o d : Nat → Nat) (N : zc_N) (k : Int32) (hI : zc_I N) : za_Cl l g E yX1_lowBits cX1_lowBits 7 4 0 0 [.ref (o 1), .int k] (zc_ws g o d N) (fun r (_ : Unit) => r = zk_lowBits N k) (fun _ => zc_ws g o d N) := by
  refine za_begin (by decide) (Nat.le_of_ble_eq_true rfl) RX1 rfl ?_
  intro p e s m args below meth co A ls Q H locs C hQ hr hlocks hnm hS hP hD hl
  obtain ⟨hx, hb, hml, hown, hts, hK, hA, hE⟩ := id C
  have hl : lv_has ls 7 [(0, .ref (o 1)), (1, .int k)] := hl
  refine lv_aload_n hx hb dX1_lowBits_0 rfl (lv_at hl 0 rfl) ?_
  refine va_get (ci := 1) (v := .ref (o 7)) hx hb hts iX1 hown hK hP 1 rfl rfl 0 (by decide) (hts _ w_255) (fun _ h9 => h9) rfl dX1_lowBits_1 ?_
  refine lv_iload_n hx hb dX1_lowBits_4 rfl (lv_at hl 1 rfl) ?_
  refine lv_bipush (v := 7) hx hb dX1_lowBits_5 (by decide) ?_
  refine za_ci (wc := zc_ws g o d N) (wr := []) C hP hD hS [0, 1, 2, 3, 4, 5, 6, 7, 8, 9, 10, 11, 12, 13, 14, 15, 16] [] rfl rfl (by decide) (by decide) (za_runV C hP hD hS [0, 1, 2, 3, 4, 5, 6, 7, 8, 9, 10, 11, 12, 13, 14, 15, 16] rfl (by decide) rfl (kX8_fact l g E o d N k 7 hI ) w_776 mX8_fact 7 rfl rfl rfl rfl hl.1 rfl (Nat.le_of_ble_eq_true rfl) dX1_lowBits_7 ⟨Nat.le_of_ble_eq_true rfl, Nat.le_of_ble_eq_true rfl⟩ ⟨Nat.le_refl _, Nat.le_refl _⟩) (fun r1 _ H locs hr1 hP hD hS => ?_)
  subst hr1
  have hP : va_P g.1 vwCl (zc_ws g o d N) H := hP
  have hD : va_D A (zc_ws g o d N) := hD
  refine lv_istore_n (lv' := [(2, .int (zk_fact N k 7)), (0, .ref (o 1)), (1, .int k)]) hx hb dX1_lowBits_10 rfl hl (by decide) rfl (fun ls hl => ?_)
  refine lv_aload_n hx hb dX1_lowBits_11 rfl (lv_at hl 1 rfl) ?_
  refine va_get (ci := 1) (v := .ref (o 7)) hx hb hts iX1 hown hK hP 1 rfl rfl 0 (by decide) (hts _ w_255) (fun _ h9 => h9) rfl dX1_lowBits_12 ?_
  refine lv_iload_n hx hb dX1_lowBits_15 rfl (lv_at hl 2 rfl) ?_
  refine lv_bipush (v := 8) hx hb dX1_lowBits_16 (by decide) ?_
  refine za_ci (wc := zc_ws g o d N) (wr := []) C hP hD hS [0, 1, 2, 3, 4, 5, 6, 7, 8, 9, 10, 11, 12, 13, 14, 15, 16] [] rfl rfl (by decide) (by decide) (za_runV C hP hD hS [0, 1, 2, 3, 4, 5, 6, 7, 8, 9, 10, 11, 12, 13, 14, 15, 16] rfl (by decide) rfl (kX8_fact l g E o d N k 8 hI ) w_776 mX8_fact 7 rfl rfl rfl rfl hl.1 rfl (Nat.le_of_ble_eq_true rfl) dX1_lowBits_18 ⟨Nat.le_of_ble_eq_true rfl, Nat.le_of_ble_eq_true rfl⟩ ⟨Nat.le_refl _, Nat.le_refl _⟩) (fun r2 _ H locs hr2 hP hD hS => ?_)
  subst hr2
  have hP : va_P g.1 vwCl (zc_ws g o d N) H := hP
  have hD : va_D A (zc_ws g o d N) := hD
  refine lv_istore_n (lv' := [(3, .int (zk_fact N k 8)), (2, .int (zk_fact N k 7)), (0, .ref (o 1)), (1, .int k)]) hx hb dX1_lowBits_21 rfl hl (by decide) rfl (fun ls hl => ?_)
  refine lv_lconst (v := 0) hx hb dX1_lowBits_22 (by decide) ?_
  refine lv_lstore (lv' := [(4, .long 0), (3, .int (zk_fact N k 8)), (2, .int (zk_fact N k 7)), (0, .ref (o 1)), (1, .int k)]) hx hb dX1_lowBits_23 hl (by decide) rfl (fun ls hl => ?_)
  refine lv_aload_n hx hb dX1_lowBits_25 rfl (lv_at hl 3 rfl) ?_
  refine lv_iload_n hx hb dX1_lowBits_26 rfl (lv_at hl 4 rfl) ?_
  refine za_ci (wc := zc_ws g o d N) (wr := []) C hP hD hS [0, 1, 2, 3, 4, 5, 6, 7, 8, 9, 10, 11, 12, 13, 14, 15, 16] [] rfl rfl (by decide) (by decide) (za_runV C hP hD hS [0, 1, 2, 3, 4, 5, 6, 7, 8, 9, 10, 11, 12, 13, 14, 15, 16] rfl (by decide) rfl (kX1_firstDigit l g E o d N k hI ) w_777 mX1_firstDigit 1 rfl rfl rfl rfl hl.1 rfl (Nat.le_of_ble_eq_true rfl) dX1_lowBits_27 ⟨Nat.le_of_ble_eq_true rfl, Nat.le_of_ble_eq_true rfl⟩ ⟨Nat.le_refl _, Nat.le_refl _⟩) (fun r3 _ H locs hr3 hP hD hS => ?_)
  subst hr3
  have hP : va_P g.1 vwCl (zc_ws g o d N) H := hP
  have hD : va_D A (zc_ws g o d N) := hD
  refine lv_istore (lv' := [(6, .int (zk_fd N k)), (4, .long 0), (3, .int (zk_fact N k 8)), (2, .int (zk_fact N k 7)), (0, .ref (o 1)), (1, .int k)]) hx hb dX1_lowBits_30 hl (by decide) rfl (fun ls hl => ?_)
  rw [(zk_fd_nI N k).1] at hl
  exact kL_low l g E o d N k C hQ hr hlocks _ (zk_fd N k).toNatClampNeg 0 (Or.inl (zk_fd_nI N k).2) rfl (Nat.lt_succ_self _) H locs ls hS hP hD hI (lv_sub hl [4, 5, 3, 2, 1, 0] rfl)
set_option maxHeartbeats 4000000 in
set_option maxRecDepth 100000 in
theorem kL_appD (l : Launch) (g : za_G) (E : za_E) (o d : Nat → Nat) (N : zc_N) (b dg : Int32) (hu1 : N.1 12 = nI (zk_used N)) (hu2 : zk_used N ≤ 16) {p : Program} {e : Env} {s : State} {m : MethodId} {args : Array Value} {below : List Frame} {meth : Method} {co : Code} {A : Nat → Prop} {Q : State → Prop} (C : za_H p s m args co cX1_appendDigit 6 RX1 g E A) (hQ : Q = MQ below (za_qi g (fun r (u : zc_N) => r = zk_appD N b dg ∧ u = zc_appD N b dg) (fun u => zc_ws g o d u) A) args s 0 0 A) (hr : meth.sig.returnType = (some .boolean)) (hlocks : meth.locks = false)  : ∀ (n_ : Nat) (i : Nat) (X : zc_N) (c : Int64), (i ≤ zk_used N) → (X.1 12 = N.1 12) → (zc_appL N b dg = zc_lim b (zk_used N - i) i X c ∧ zk_appC N b dg = zk_car b (zk_used N - i) i X c) → zk_used N - i < n_ → ∀ (H : Heap) (locs : List Loc) (ls : Array Slot), va_S A s.heap H locs → va_P g.1 vwCl (zc_ws g o d X) H → va_D A (zc_ws g o d X) → zc_I X → lv_has ls 6 [(0, .ref (o 1)), (1, .int b), (2, .int dg), (3, .long c), (5, .int (nI i))] → W p l e (za_R 0 0 0) s m args below meth co H locs 0 0 Q (F0 m 6 ls []) := by
  obtain ⟨hx, hb, hml, hown, hts, hK, hA, hE⟩ := id C
  intro n_
  induction n_ with
  | zero => intro i X c hi h12 hres hm; exact absurd hm (Nat.not_lt_zero _)
  | succ n_ ih =>
    intro i X c hi h12 hres hm H locs ls hS hP hD hI hl
    refine lv_iload hx hb dX1_appendDigit_6 (lv_at hl 4 rfl) ?_
    refine lv_aload_n hx hb dX1_appendDigit_8 rfl (lv_at hl 0 rfl) ?_
    refine va_get (ci := 1) (v := .int (X.1 12)) hx hb hts iX1 hown hK hP 1 rfl rfl 2 (by decide) (hts _ w_257) (fun _ h9 => h9) rfl dX1_appendDigit_9 ?_
    refine za_icmp_ge (tgt := 61) hx hb dX1_appendDigit_12 (by decide) (fun c_12 => ?_) (fun c_12 => ?_)
    · have hi9 : i = zk_used N := by
        rcases Nat.lt_or_ge i (zk_used N) with q | q
        · exact absurd (by rw [h12, hu1]; exact nI_lt q (by omega)) c_12
        · omega
      have e1 : zc_appL N b dg = X := by rw [hres.1, hi9, Nat.sub_self]; rfl
      have e2 : zk_appC N b dg = c := by rw [hres.2, hi9, Nat.sub_self]; rfl
      refine lv_lload_n hx hb dX1_appendDigit_61 rfl (lv_at hl 3 rfl) ?_
      refine lv_lconst (v := 0) hx hb dX1_appendDigit_62 (by decide) ?_
      refine W.lcmp hx hb dX1_appendDigit_63 ?_
      refine lv_if_ne (tgt := 69) hx hb dX1_appendDigit_64 (by decide) (fun c_64 => ?_) (fun c_64 => ?_)
      · refine lv_aload_n hx hb dX1_appendDigit_69 rfl (lv_at hl 0 rfl) ?_
        refine va_get (ci := 1) (v := .int (X.1 12)) hx hb hts iX1 hown hK hP 1 rfl rfl 2 (by decide) (hts _ w_257) (fun _ h9 => h9) rfl dX1_appendDigit_70 ?_
        refine lv_aload_n hx hb dX1_appendDigit_73 rfl (lv_at hl 0 rfl) ?_
        refine va_get (ci := 1) (v := .ref (d 11)) hx hb hts iX1 hown hK hP 1 rfl rfl 1 (by decide) (hts _ w_256) (fun _ h9 => h9) rfl dX1_appendDigit_74 ?_
        refine va_alen (v := 16) hx hb hK hP 10 2 rfl rfl rfl dX1_appendDigit_77 ?_
        refine lv_icmp_lt (tgt := 83) hx hb dX1_appendDigit_78 (by decide) (fun c_78 => ?_) (fun c_78 => ?_)
        · refine lv_aload_n hx hb dX1_appendDigit_83 rfl (lv_at hl 0 rfl) ?_
          refine va_get (ci := 1) (v := .ref (d 11)) hx hb hts iX1 hown hK hP 1 rfl rfl 1 (by decide) (hts _ w_256) (fun _ h9 => h9) rfl dX1_appendDigit_84 ?_
          refine lv_aload_n hx hb dX1_appendDigit_87 rfl (lv_at hl 0 rfl) ?_
          refine va_get (ci := 1) (v := .int (X.1 12)) hx hb hts iX1 hown hK hP 1 rfl rfl 2 (by decide) (hts _ w_257) (fun _ h9 => h9) rfl dX1_appendDigit_88 ?_
          refine lv_lload_n hx hb dX1_appendDigit_91 rfl (lv_at hl 3 rfl) ?_
          refine va_last (f := X.2.2.1) hx hb hK hP hD hS 10 2 rfl rfl (zk_inn (n := 16) (h12.trans hu1) c_78 (by omega) (by decide)) dX1_appendDigit_92 (fun H locs hP hD hS => ?_)
          have hP := zc_pa11 (X := X) hP
          have hD := zc_da11 (X := X) hD
          have hI : zc_I (zc_l X (X.1 12) c) := hI
          refine lv_aload_n hx hb dX1_appendDigit_93 rfl (lv_at hl 0 rfl) ?_
          refine lv_dup hx hb dX1_appendDigit_94 rfl ?_
          refine va_get (ci := 1) (v := .int (X.1 12)) hx hb hts iX1 hown hK hP 1 rfl rfl 2 (by decide) (hts _ w_257) (fun _ h9 => h9) rfl dX1_appendDigit_95 ?_
          refine lv_iconst (v := 1) hx hb dX1_appendDigit_98 (by decide) ?_
          refine lv_iadd hx hb dX1_appendDigit_99 ?_
          refine va_put (ci := 1) (fs := zc_f1 o d (zc_l X (X.1 12) c).1) (v := .int ((X.1 12) + 1)) hx hb hts iX1 tyX1 tyX1_ok nmX1 hown hK hP hD hS 1 rfl rfl 2 (by decide) (hts _ w_257) (fun _ h9 => h9) rfl (tyX1_ok 2 (by decide)) rfl rfl (Nat.le_of_ble_eq_true rfl) dX1_appendDigit_100 (fun H locs hP hD hS => ?_)
          have hP := zc_pf12 (X := zc_l X (X.1 12) c) hP
          have hD := zc_df12 (X := zc_l X (X.1 12) c) hD
          refine lv_iconst (v := 1) hx hb dX1_appendDigit_103 (by decide) ?_
          exact zc_riw hQ hx hb hr hlocks hK hP hD hS rfl (by unfold zk_appD; rw [e2, if_neg c_64, if_pos (h12 ▸ c_78)]) (by unfold zc_appD; rw [e2, e1, if_neg c_64, if_pos (h12 ▸ c_78)]; rw [h12]) (Nat.le_refl _) (Nat.le_refl _) dX1_appendDigit_104
        · refine lv_iconst (v := 0) hx hb dX1_appendDigit_81 (by decide) ?_
          exact zc_riw hQ hx hb hr hlocks hK hP hD hS rfl (by unfold zk_appD; rw [e2, if_neg c_64, if_neg (h12 ▸ c_78)]) (by unfold zc_appD; rw [e2, e1, if_neg c_64, if_neg (h12 ▸ c_78)]) (Nat.le_refl _) (Nat.le_refl _) dX1_appendDigit_82
      · refine lv_iconst (v := 1) hx hb dX1_appendDigit_67 (by decide) ?_
        exact zc_riw hQ hx hb hr hlocks hK hP hD hS rfl (by unfold zk_appD; rw [e2, if_pos c_64]) (by unfold zc_appD; rw [e2, e1, if_pos c_64]) (Nat.le_refl _) (Nat.le_refl _) dX1_appendDigit_68
    · have hlt : i < zk_used N := by
        rw [h12, hu1] at c_12
        exact (nI_ltI (by omega) (by omega)).mp c_12
      refine lv_iload hx hb dX1_appendDigit_15 (lv_at hl 4 rfl) ?_
      refine lv_aload_n hx hb dX1_appendDigit_17 rfl (lv_at hl 0 rfl) ?_
      refine va_get (ci := 1) (v := .ref (d 11)) hx hb hts iX1 hown hK hP 1 rfl rfl 1 (by decide) (hts _ w_256) (fun _ h9 => h9) rfl dX1_appendDigit_18 ?_
      refine va_alen (v := 16) hx hb hK hP 10 2 rfl rfl rfl dX1_appendDigit_21 ?_
      refine za_icmp_ge (tgt := 61) hx hb dX1_appendDigit_22 (by decide) (fun c_22 => ?_) (fun c_22 => ?_)
      · have hi9 : i = zk_used N := by
          have hu3 := hu2
          rcases Nat.lt_or_ge i (zk_used N) with q | q
          · exact absurd (show nI i < 16 from nI_lt (show i < 16 by omega) (by decide)) c_22
          · omega
        have e1 : zc_appL N b dg = X := by rw [hres.1, hi9, Nat.sub_self]; rfl
        have e2 : zk_appC N b dg = c := by rw [hres.2, hi9, Nat.sub_self]; rfl
        refine lv_lload_n hx hb dX1_appendDigit_61 rfl (lv_at hl 3 rfl) ?_
        refine lv_lconst (v := 0) hx hb dX1_appendDigit_62 (by decide) ?_
        refine W.lcmp hx hb dX1_appendDigit_63 ?_
        refine lv_if_ne (tgt := 69) hx hb dX1_appendDigit_64 (by decide) (fun c_64 => ?_) (fun c_64 => ?_)
        · refine lv_aload_n hx hb dX1_appendDigit_69 rfl (lv_at hl 0 rfl) ?_
          refine va_get (ci := 1) (v := .int (X.1 12)) hx hb hts iX1 hown hK hP 1 rfl rfl 2 (by decide) (hts _ w_257) (fun _ h9 => h9) rfl dX1_appendDigit_70 ?_
          refine lv_aload_n hx hb dX1_appendDigit_73 rfl (lv_at hl 0 rfl) ?_
          refine va_get (ci := 1) (v := .ref (d 11)) hx hb hts iX1 hown hK hP 1 rfl rfl 1 (by decide) (hts _ w_256) (fun _ h9 => h9) rfl dX1_appendDigit_74 ?_
          refine va_alen (v := 16) hx hb hK hP 10 2 rfl rfl rfl dX1_appendDigit_77 ?_
          refine lv_icmp_lt (tgt := 83) hx hb dX1_appendDigit_78 (by decide) (fun c_78 => ?_) (fun c_78 => ?_)
          · refine lv_aload_n hx hb dX1_appendDigit_83 rfl (lv_at hl 0 rfl) ?_
            refine va_get (ci := 1) (v := .ref (d 11)) hx hb hts iX1 hown hK hP 1 rfl rfl 1 (by decide) (hts _ w_256) (fun _ h9 => h9) rfl dX1_appendDigit_84 ?_
            refine lv_aload_n hx hb dX1_appendDigit_87 rfl (lv_at hl 0 rfl) ?_
            refine va_get (ci := 1) (v := .int (X.1 12)) hx hb hts iX1 hown hK hP 1 rfl rfl 2 (by decide) (hts _ w_257) (fun _ h9 => h9) rfl dX1_appendDigit_88 ?_
            refine lv_lload_n hx hb dX1_appendDigit_91 rfl (lv_at hl 3 rfl) ?_
            refine va_last (f := X.2.2.1) hx hb hK hP hD hS 10 2 rfl rfl (zk_inn (n := 16) (h12.trans hu1) c_78 (by omega) (by decide)) dX1_appendDigit_92 (fun H locs hP hD hS => ?_)
            have hP := zc_pa11 (X := X) hP
            have hD := zc_da11 (X := X) hD
            have hI : zc_I (zc_l X (X.1 12) c) := hI
            refine lv_aload_n hx hb dX1_appendDigit_93 rfl (lv_at hl 0 rfl) ?_
            refine lv_dup hx hb dX1_appendDigit_94 rfl ?_
            refine va_get (ci := 1) (v := .int (X.1 12)) hx hb hts iX1 hown hK hP 1 rfl rfl 2 (by decide) (hts _ w_257) (fun _ h9 => h9) rfl dX1_appendDigit_95 ?_
            refine lv_iconst (v := 1) hx hb dX1_appendDigit_98 (by decide) ?_
            refine lv_iadd hx hb dX1_appendDigit_99 ?_
            refine va_put (ci := 1) (fs := zc_f1 o d (zc_l X (X.1 12) c).1) (v := .int ((X.1 12) + 1)) hx hb hts iX1 tyX1 tyX1_ok nmX1 hown hK hP hD hS 1 rfl rfl 2 (by decide) (hts _ w_257) (fun _ h9 => h9) rfl (tyX1_ok 2 (by decide)) rfl rfl (Nat.le_of_ble_eq_true rfl) dX1_appendDigit_100 (fun H locs hP hD hS => ?_)
            have hP := zc_pf12 (X := zc_l X (X.1 12) c) hP
            have hD := zc_df12 (X := zc_l X (X.1 12) c) hD
            refine lv_iconst (v := 1) hx hb dX1_appendDigit_103 (by decide) ?_
            exact zc_riw hQ hx hb hr hlocks hK hP hD hS rfl (by unfold zk_appD; rw [e2, if_neg c_64, if_pos (h12 ▸ c_78)]) (by unfold zc_appD; rw [e2, e1, if_neg c_64, if_pos (h12 ▸ c_78)]; rw [h12]) (Nat.le_refl _) (Nat.le_refl _) dX1_appendDigit_104
          · refine lv_iconst (v := 0) hx hb dX1_appendDigit_81 (by decide) ?_
            exact zc_riw hQ hx hb hr hlocks hK hP hD hS rfl (by unfold zk_appD; rw [e2, if_neg c_64, if_neg (h12 ▸ c_78)]) (by unfold zc_appD; rw [e2, e1, if_neg c_64, if_neg (h12 ▸ c_78)]) (Nat.le_refl _) (Nat.le_refl _) dX1_appendDigit_82
        · refine lv_iconst (v := 1) hx hb dX1_appendDigit_67 (by decide) ?_
          exact zc_riw hQ hx hb hr hlocks hK hP hD hS rfl (by unfold zk_appD; rw [e2, if_pos c_64]) (by unfold zc_appD; rw [e2, e1, if_pos c_64]) (Nat.le_refl _) (Nat.le_refl _) dX1_appendDigit_68
      · refine lv_lload_n hx hb dX1_appendDigit_25 rfl (lv_at hl 3 rfl) ?_
        refine lv_aload_n hx hb dX1_appendDigit_26 rfl (lv_at hl 0 rfl) ?_
        refine va_get (ci := 1) (v := .ref (d 11)) hx hb hts iX1 hown hK hP 1 rfl rfl 1 (by decide) (hts _ w_256) (fun _ h9 => h9) rfl dX1_appendDigit_27 ?_
        refine lv_iload hx hb dX1_appendDigit_30 (lv_at hl 4 rfl) ?_
        refine va_lald (f := X.2.2.1) hx hb hK hP 10 2 rfl rfl (vp_in_nI (show i < 16 by omega) (by decide)) dX1_appendDigit_32 ?_
        refine lv_iload_n hx hb dX1_appendDigit_33 rfl (lv_at hl 1 rfl) ?_
        refine lv_i2l (v := b.toInt64) hx hb dX1_appendDigit_34 rfl ?_
        refine lv_lmul hx hb dX1_appendDigit_35 ?_
        refine lv_ladd hx hb dX1_appendDigit_36 ?_
        refine lv_lstore_n (lv' := [(3, .long (c + ((X.2.2.1 (nI i).toNatClampNeg) * b.toInt64))), (0, .ref (o 1)), (1, .int b), (2, .int dg), (5, .int (nI i))]) hx hb dX1_appendDigit_37 rfl hl (by decide) rfl (fun ls hl => ?_)
        refine lv_aload_n hx hb dX1_appendDigit_38 rfl (lv_at hl 1 rfl) ?_
        refine va_get (ci := 1) (v := .ref (d 11)) hx hb hts iX1 hown hK hP 1 rfl rfl 1 (by decide) (hts _ w_256) (fun _ h9 => h9) rfl dX1_appendDigit_39 ?_
        refine lv_iload hx hb dX1_appendDigit_42 (lv_at hl 4 rfl) ?_
        refine lv_lload_n hx hb dX1_appendDigit_44 rfl (lv_at hl 0 rfl) ?_
        refine lv_ldc2 (v := 4294967295) hx hb hown (hts _ w_799) dX1_appendDigit_45 ?_
        refine lv_land hx hb dX1_appendDigit_48 ?_
        refine va_last (f := X.2.2.1) hx hb hK hP hD hS 10 2 rfl rfl (vp_in_nI (show i < 16 by omega) (by decide)) dX1_appendDigit_49 (fun H locs hP hD hS => ?_)
        have hP := zc_pa11 (X := X) hP
        have hD := zc_da11 (X := X) hD
        have hI : zc_I (zc_l X (nI i) ((c + ((X.2.2.1 (nI i).toNatClampNeg) * b.toInt64)) &&& 4294967295)) := hI
        refine lv_lload_n hx hb dX1_appendDigit_50 rfl (lv_at hl 0 rfl) ?_
        refine lv_bipush (v := 32) hx hb dX1_appendDigit_51 (by decide) ?_
        refine lv_lushr (v := ((c + ((X.2.2.1 (nI i).toNatClampNeg) * b.toInt64)).toUInt64 >>> ((32 : Int32).toInt64.toUInt64 &&& Int64.toUInt64 63)).toInt64) hx hb dX1_appendDigit_53 rfl ?_
        refine lv_lstore_n (lv' := [(3, .long (((c + ((X.2.2.1 (nI i).toNatClampNeg) * b.toInt64)).toUInt64 >>> ((32 : Int32).toInt64.toUInt64 &&& Int64.toUInt64 63)).toInt64)), (0, .ref (o 1)), (1, .int b), (2, .int dg), (5, .int (nI i))]) hx hb dX1_appendDigit_54 rfl hl (by decide) rfl (fun ls hl => ?_)
        refine lv_iinc (v := nI (i + 1)) (lv' := [(5, .int (nI (i + 1))), (3, .long (((c + ((X.2.2.1 (nI i).toNatClampNeg) * b.toInt64)).toUInt64 >>> ((32 : Int32).toInt64.toUInt64 &&& Int64.toUInt64 63)).toInt64)), (0, .ref (o 1)), (1, .int b), (2, .int dg)]) hx hb dX1_appendDigit_55 hl (k := 4) rfl (nI_1 _) (by decide) rfl (fun ls hl => ?_)
        refine lv_goto (tgt := 6) hx hb dX1_appendDigit_58 (by decide) ?_
        exact ih (i + 1) (zc_l X (nI i) (zk_cc X b i c &&& 4294967295)) (zk_shr (zk_cc X b i c) 32) (by omega) (h12) (⟨by rw [hres.1, zc_lim_s (j := zk_used N - (i + 1)) (by omega)], by rw [hres.2, zk_car_s (j := zk_used N - (i + 1)) (by omega)]⟩) (by omega) H locs ls hS hP hD hI (lv_sub hl [2, 3, 4, 1, 0] rfl)
set_option maxHeartbeats 4000000 in
set_option maxRecDepth 100000 in
theorem kX1_appendDigit (l : Launch) (g : za_G) (E : za_E) (o d : Nat → Nat) (N : zc_N) (b dg : Int32) (hI : zc_I N) : za_Ci l g E yX1_appendDigit cX1_appendDigit 6 ((some .boolean)) 0 0 0 [.ref (o 1), .int b, .int dg] (zc_ws g o d N) (fun r (u : zc_N) => r = zk_appD N b dg ∧ u = zc_appD N b dg) (fun u => zc_ws g o d u) := by
  refine za_begin (by decide) (Nat.le_of_ble_eq_true rfl) RX1 rfl ?_
  intro p e s m args below meth co A ls Q H locs C hQ hr hlocks hnm hS hP hD hl
  obtain ⟨hx, hb, hml, hown, hts, hK, hA, hE⟩ := id C
  have hl : lv_has ls 6 [(0, .ref (o 1)), (1, .int b), (2, .int dg)] := hl
  have hu : N.1 12 = nI (zk_used N) ∧ zk_used N ≤ 16 := by
    obtain ⟨v, v1, v2⟩ := hI.2.2.2.2.2.1
    have e : zk_used N = v := by unfold zk_used; rw [v1]; exact nI_clamp (by omega)
    rw [e]
    exact ⟨v1, v2⟩
  refine lv_iload_n hx hb dX1_appendDigit_0 rfl (lv_at hl 2 rfl) ?_
  refine lv_i2l (v := dg.toInt64) hx hb dX1_appendDigit_1 rfl ?_
  refine lv_lstore_n (lv' := [(3, .long dg.toInt64), (0, .ref (o 1)), (1, .int b), (2, .int dg)]) hx hb dX1_appendDigit_2 rfl hl (by decide) rfl (fun ls hl => ?_)
  refine lv_iconst (v := 0) hx hb dX1_appendDigit_3 (by decide) ?_
  refine lv_istore (lv' := [(5, .int 0), (3, .long dg.toInt64), (0, .ref (o 1)), (1, .int b), (2, .int dg)]) hx hb dX1_appendDigit_4 hl (by decide) rfl (fun ls hl => ?_)
  exact kL_appD l g E o d N b dg hu.1 hu.2 C hQ hr hlocks _ 0 N dg.toInt64 (Nat.zero_le _) rfl ⟨by rw [Nat.sub_zero]; rfl, by rw [Nat.sub_zero]; rfl⟩ (Nat.lt_succ_self _) H locs ls hS hP hD hI (lv_sub hl [2, 3, 4, 1, 0] rfl)
set_option maxHeartbeats 4000000 in
set_option maxRecDepth 100000 in
theorem kL_hasNo (l : Launch) (g : za_G) (E : za_E) (o d : Nat → Nat) (N : zc_N) (B : Nat) (hB : B < 513) (hu1 : N.1 12 = nI (zk_used N)) (hu2 : zk_used N ≤ 16) {p : Program} {e : Env} {s : State} {m : MethodId} {args : Array Value} {below : List Frame} {meth : Method} {co : Code} {A : Nat → Prop} {Q : State → Prop} (C : za_H p s m args co cX1_hasNoBitFrom 5 RX1 g E A) (hQ : Q = MQ below (za_qi g (fun r (_ : Unit) => r = zk_hasNo N B) (fun _ => zc_ws g o d N) A) args s 0 0 A) (hr : meth.sig.returnType = (some .boolean)) (hlocks : meth.locks = false)  : ∀ (n_ : Nat) (i : Nat), (B / 32 ≤ i) → (i ≤ 17) → (zk_hasNo N B = zk_nobit N (zk_used N - i) i (if i = B / 32 then nI (B % 32) else 0)) → 17 - i < n_ → ∀ (H : Heap) (locs : List Loc) (ls : Array Slot), va_S A s.heap H locs → va_P g.1 vwCl (zc_ws g o d N) H → va_D A (zc_ws g o d N) → zc_I N → lv_has ls 5 [(0, .ref (o 1)), (1, .int (nI B)), (2, .int (nI (B / 32))), (3, .int (nI i))] → W p l e (za_R 0 0 0) s m args below meth co H locs 0 0 Q (F0 m 7 ls []) := by
  obtain ⟨hx, hb, hml, hown, hts, hK, hA, hE⟩ := id C
  intro n_
  induction n_ with
  | zero => intro i hi hi2 hres hm; exact absurd hm (Nat.not_lt_zero _)
  | succ n_ ih =>
    intro i hi hi2 hres hm H locs ls hS hP hD hI hl
    refine lv_iload_n hx hb dX1_hasNoBitFrom_7 rfl (lv_at hl 3 rfl) ?_
    refine lv_aload_n hx hb dX1_hasNoBitFrom_8 rfl (lv_at hl 0 rfl) ?_
    refine va_get (ci := 1) (v := .int (N.1 12)) hx hb hts iX1 hown hK hP 1 rfl rfl 2 (by decide) (hts _ w_257) (fun _ h9 => h9) rfl dX1_hasNoBitFrom_9 ?_
    refine za_icmp_ge (tgt := 65) hx hb dX1_hasNoBitFrom_12 (by decide) (fun c_12 => ?_) (fun c_12 => ?_)
    · refine lv_iconst (v := 1) hx hb dX1_hasNoBitFrom_65 (by decide) ?_
      exact zc_ri hQ hx hb hr hlocks hK hP hD hS rfl (by rw [hres, zk_nobit_z (by rcases Nat.lt_or_ge i (zk_used N) with q | q; exact absurd (by rw [hu1]; exact nI_lt q (by omega)) c_12; omega)]) (Nat.le_refl _) (Nat.le_refl _) dX1_hasNoBitFrom_66
    · have hlt : i < zk_used N := by
        rw [hu1] at c_12
        exact (nI_ltI (by omega) (by omega)).mp c_12
      refine lv_iload_n hx hb dX1_hasNoBitFrom_15 rfl (lv_at hl 3 rfl) ?_
      refine lv_aload_n hx hb dX1_hasNoBitFrom_16 rfl (lv_at hl 0 rfl) ?_
      refine va_get (ci := 1) (v := .ref (d 11)) hx hb hts iX1 hown hK hP 1 rfl rfl 1 (by decide) (hts _ w_256) (fun _ h9 => h9) rfl dX1_hasNoBitFrom_17 ?_
      refine va_alen (v := 16) hx hb hK hP 10 2 rfl rfl rfl dX1_hasNoBitFrom_20 ?_
      refine za_icmp_ge (tgt := 65) hx hb dX1_hasNoBitFrom_21 (by decide) (fun c_21 => ?_) (fun c_21 => ?_)
      · exact absurd (show nI i < 16 from nI_lt (show i < 16 by omega) (by decide)) c_21
      · have J_37 : ∀ v9 : Int32, v9 = ((if i = B / 32 then nI (B % 32) else 0)) → W p l e (za_R 0 0 0) s m args below meth co H locs 0 0 Q (F0 m 37 ls (.int v9 :: [])) := by
          intro v_37 hv_37
          refine lv_istore (lv' := [(4, .int v_37), (0, .ref (o 1)), (1, .int (nI B)), (2, .int (nI (B / 32))), (3, .int (nI i))]) hx hb dX1_hasNoBitFrom_37 hl (by decide) rfl (fun ls hl => ?_)
          refine lv_iload_n hx hb dX1_hasNoBitFrom_39 rfl (lv_at hl 4 rfl) ?_
          refine lv_if_lt (tgt := 59) hx hb dX1_hasNoBitFrom_40 (by decide) (fun c_40 => ?_) (fun c_40 => ?_)
          · exact absurd c_40 (nI_pos (by omega))
          · refine lv_aload_n hx hb dX1_hasNoBitFrom_43 rfl (lv_at hl 1 rfl) ?_
            refine va_get (ci := 1) (v := .ref (d 11)) hx hb hts iX1 hown hK hP 1 rfl rfl 1 (by decide) (hts _ w_256) (fun _ h9 => h9) rfl dX1_hasNoBitFrom_44 ?_
            refine lv_iload_n hx hb dX1_hasNoBitFrom_47 rfl (lv_at hl 4 rfl) ?_
            refine va_lald (f := N.2.2.1) hx hb hK hP 10 2 rfl rfl (vp_in_nI (show i < 16 by omega) (by decide)) dX1_hasNoBitFrom_48 ?_
            refine lv_iload hx hb dX1_hasNoBitFrom_49 (lv_at hl 0 rfl) ?_
            refine lv_lushr (v := ((N.2.2.1 (nI i).toNatClampNeg).toUInt64 >>> (v_37.toInt64.toUInt64 &&& Int64.toUInt64 63)).toInt64) hx hb dX1_hasNoBitFrom_51 rfl ?_
            refine lv_lconst (v := 0) hx hb dX1_hasNoBitFrom_52 (by decide) ?_
            refine W.lcmp hx hb dX1_hasNoBitFrom_53 ?_
            refine lv_if_eq (tgt := 59) hx hb dX1_hasNoBitFrom_54 (by decide) (fun c_54 => ?_) (fun c_54 => ?_)
            · refine lv_iinc (v := nI (i + 1)) (lv' := [(3, .int (nI (i + 1))), (4, .int v_37), (0, .ref (o 1)), (1, .int (nI B)), (2, .int (nI (B / 32)))]) hx hb dX1_hasNoBitFrom_59 hl (k := 4) rfl (nI_1 _) (by decide) rfl (fun ls hl => ?_)
              refine lv_goto (tgt := 7) hx hb dX1_hasNoBitFrom_62 (by decide) ?_
              exact ih (i + 1) (by omega) (by omega) (by rw [hres, ← hv_37, zk_nobit_s (j := zk_used N - (i + 1)) (by omega), if_pos (show lg_cmp (zk_shr (N.2.2.1 (nI i).toNatClampNeg) v_37) 0 = 0 from c_54), if_neg (by omega)]) (by omega) H locs ls hS hP hD hI (lv_sub hl [2, 3, 4, 0] rfl)
            · refine lv_iconst (v := 0) hx hb dX1_hasNoBitFrom_57 (by decide) ?_
              exact zc_ri hQ hx hb hr hlocks hK hP hD hS rfl (by rw [hres, ← hv_37, zk_nobit_s (j := zk_used N - (i + 1)) (by omega), if_neg (show ¬ lg_cmp (zk_shr (N.2.2.1 (nI i).toNatClampNeg) v_37) 0 = 0 from c_54)]) (Nat.le_refl _) (Nat.le_refl _) dX1_hasNoBitFrom_58
        refine lv_iload_n hx hb dX1_hasNoBitFrom_24 rfl (lv_at hl 3 rfl) ?_
        refine lv_iload_n hx hb dX1_hasNoBitFrom_25 rfl (lv_at hl 2 rfl) ?_
        refine lv_icmp_ne (tgt := 36) hx hb dX1_hasNoBitFrom_26 (by decide) (fun c_26 => ?_) (fun c_26 => ?_)
        · refine lv_iconst (v := 0) hx hb dX1_hasNoBitFrom_36 (by decide) ?_
          exact J_37 0 (by first | (rw [if_pos (z_injC (by omega) (by omega) c_26)]; exact (z_512 B hB).2) | (rw [if_neg (fun h9 => c_26 (by rw [h9]))]))
        · refine lv_iload_n hx hb dX1_hasNoBitFrom_29 rfl (lv_at hl 1 rfl) ?_
          refine lv_bipush (v := 32) hx hb dX1_hasNoBitFrom_30 (by decide) ?_
          refine lv_irem hx hb dX1_hasNoBitFrom_32 (by decide) ?_
          refine lv_goto (tgt := 37) hx hb dX1_hasNoBitFrom_33 (by decide) ?_
          exact J_37 ((nI B) - (nI B) / 32 * 32) (by first | (rw [if_pos (z_injC (by omega) (by omega) c_26)]; exact (z_512 B hB).2) | (rw [if_neg (fun h9 => c_26 (by rw [h9]))]))
set_option maxHeartbeats 4000000 in
set_option maxRecDepth 100000 in
theorem kX1_hasNoBitFrom (l : Launch) (g : za_G) (E : za_E) (o d : Nat → Nat) (N : zc_N) (B : Nat) (hI : zc_I N) (hB : B < 513) : za_Ci l g E yX1_hasNoBitFrom cX1_hasNoBitFrom 5 ((some .boolean)) 0 0 0 [.ref (o 1), .int (nI B)] (zc_ws g o d N) (fun r (_ : Unit) => r = zk_hasNo N B) (fun _ => zc_ws g o d N) := by
  refine za_begin (by decide) (Nat.le_of_ble_eq_true rfl) RX1 rfl ?_
  intro p e s m args below meth co A ls Q H locs C hQ hr hlocks hnm hS hP hD hl
  obtain ⟨hx, hb, hml, hown, hts, hK, hA, hE⟩ := id C
  have hl : lv_has ls 5 [(0, .ref (o 1)), (1, .int (nI B))] := hl
  have hu : N.1 12 = nI (zk_used N) ∧ zk_used N ≤ 16 := by
    obtain ⟨v, v1, v2⟩ := hI.2.2.2.2.2.1
    have e : zk_used N = v := by unfold zk_used; rw [v1]; exact nI_clamp (by omega)
    rw [e]
    exact ⟨v1, v2⟩
  refine lv_iload_n hx hb dX1_hasNoBitFrom_0 rfl (lv_at hl 1 rfl) ?_
  refine lv_bipush (v := 32) hx hb dX1_hasNoBitFrom_1 (by decide) ?_
  refine lv_idiv hx hb dX1_hasNoBitFrom_3 (by decide) ?_
  refine za_top (v := nI (B / 32)) ((z_512 B hB).1) ?_
  refine lv_istore_n (lv' := [(2, .int (nI (B / 32))), (0, .ref (o 1)), (1, .int (nI B))]) hx hb dX1_hasNoBitFrom_4 rfl hl (by decide) rfl (fun ls hl => ?_)
  refine lv_iload_n hx hb dX1_hasNoBitFrom_5 rfl (lv_at hl 0 rfl) ?_
  refine lv_istore_n (lv' := [(3, .int (nI (B / 32))), (2, .int (nI (B / 32))), (0, .ref (o 1)), (1, .int (nI B))]) hx hb dX1_hasNoBitFrom_6 rfl hl (by decide) rfl (fun ls hl => ?_)
  exact kL_hasNo l g E o d N B hB hu.1 hu.2 C hQ hr hlocks _ (B / 32) (Nat.le_refl _) (by omega) (by rw [if_pos rfl]; rfl) (Nat.lt_succ_self _) H locs ls hS hP hD hI (lv_sub hl [2, 3, 1, 0] rfl)
theorem zc_appD_b {N : zc_N} {b dg : Int32} : (zc_appD N b dg).2.1 = N.2.1 ∧ (zc_appD N b dg).1 71 = N.1 71 ∧ (zc_appD N b dg).1 1 = N.1 1 := by
  have h1 := zc_lim_f b (zk_used N) 0 N dg.toInt64
  have h2 : (zc_appL N b dg).1 = N.1 := h1.1
  have h3 : (zc_appL N b dg).2.1 = N.2.1 := h1.2.1
  unfold zc_appD
  split
  · rw [h2, h3]; exact ⟨rfl, rfl, rfl⟩
  · split
    · refine ⟨h3, ?_, ?_⟩
      · show (zc_appL N b dg).1 71 = _
        rw [h2]
      · show (zc_appL N b dg).1 1 = _
        rw [h2]
    · rw [h2, h3]; exact ⟨rfl, rfl, rfl⟩
theorem zk_byteOf_eq {X Y : zc_N} (h1 : X.2.1 = Y.2.1) (h2 : X.1 71 = Y.1 71) (h3 : X.1 1 = Y.1 1) (k i : Int32) : zk_byteOf X k i = zk_byteOf Y k i := by
  unfold zk_byteOf zk_byteAt zk_fact zk_has
  rw [h1, h2, h3]
set_option maxHeartbeats 4000000 in
set_option maxRecDepth 100000 in
theorem kL_below (l : Launch) (g : za_G) (E : za_E) (o d : Nat → Nat) (N : zc_N) (k : Int32) (B : Nat) (hB : B < 513) {p : Program} {e : Env} {s : State} {m : MethodId} {args : Array Value} {below : List Frame} {meth : Method} {co : Code} {A : Nat → Prop} {Q : State → Prop} (C : za_H p s m args co cX1_isBelowPowerOfTwo 6 RX1 g E A) (hQ : Q = MQ below (za_qi g (fun r (u : zc_N) => r = zk_below N k B ∧ u = zc_below N k) (fun u => zc_ws g o d u) A) args s 0 0 A) (hr : meth.sig.returnType = (some .boolean)) (hlocks : meth.locks = false)  : ∀ (n_ : Nat) (i : Nat) (X : zc_N), (i ≤ 2 ∨ i ≤ (zk_fact N k 8).toNatClampNeg) → (X.2.1 = N.2.1 ∧ X.1 71 = N.1 71 ∧ X.1 1 = N.1 1) → (zk_pow k (zk_fact N k 7) ((zk_fact N k 8).toNatClampNeg - (zk_fd N k).toNatClampNeg) (zk_fd N k).toNatClampNeg (zc_s N 12 0) = zk_pow k (zk_fact N k 7) ((zk_fact N k 8).toNatClampNeg - i) i X ∧ zc_pow k (zk_fact N k 7) ((zk_fact N k 8).toNatClampNeg - (zk_fd N k).toNatClampNeg) (zk_fd N k).toNatClampNeg (zc_s N 12 0) = zc_pow k (zk_fact N k 7) ((zk_fact N k 8).toNatClampNeg - i) i X) → (zk_fact N k 8).toNatClampNeg - i < n_ → ∀ (H : Heap) (locs : List Loc) (ls : Array Slot), va_S A s.heap H locs → va_P g.1 vwCl (zc_ws g o d X) H → va_D A (zc_ws g o d X) → zc_I X → lv_has ls 6 [(0, .ref (o 1)), (1, .int k), (2, .int (nI B)), (3, .int (zk_fact N k 7)), (4, .int (zk_fact N k 8)), (5, .int (nI i))] → W p l e (za_R 4 0 0) s m args below meth co H locs 0 0 Q (F0 m 35 ls []) := by
  obtain ⟨hx, hb, hml, hown, hts, hK, hA, hE⟩ := id C
  intro n_
  induction n_ with
  | zero => intro i X hi hX hres hm; exact absurd hm (Nat.not_lt_zero _)
  | succ n_ ih =>
    intro i X hi hX hres hm H locs ls hS hP hD hI hl
    have hc9 := z_clt (zk_fact N k 8)
    refine lv_iload hx hb dX1_isBelowPowerOfTwo_35 (lv_at hl 5 rfl) ?_
    refine lv_iload hx hb dX1_isBelowPowerOfTwo_37 (lv_at hl 4 rfl) ?_
    refine za_icmp_ge (tgt := 72) hx hb dX1_isBelowPowerOfTwo_39 (by decide) (fun c_39 => ?_) (fun c_39 => ?_)
    · have hz9 : (zk_fact N k 8).toNatClampNeg - i = 0 := by
        rcases Nat.lt_or_ge i (zk_fact N k 8).toNatClampNeg with q | q
        · exact absurd ((z_ltc (by omega)).mpr q) c_39
        · omega
      have e1 : zc_below N k = X := by
        unfold zc_below
        rw [hres.2, zc_pow_z hz9]
      have e2 : zk_pow k (zk_fact N k 7) ((zk_fact N k 8).toNatClampNeg - (zk_fd N k).toNatClampNeg) (zk_fd N k).toNatClampNeg (zc_s N 12 0) = 1 := by
        rw [hres.1, zk_pow_z hz9]
      refine lv_aload_n hx hb dX1_isBelowPowerOfTwo_72 rfl (lv_at hl 0 rfl) ?_
      refine lv_iload_n hx hb dX1_isBelowPowerOfTwo_73 rfl (lv_at hl 2 rfl) ?_
      refine za_ci (wc := zc_ws g o d X) (wr := []) C hP hD hS [0, 1, 2, 3, 4, 5, 6, 7, 8, 9, 10, 11, 12, 13, 14, 15, 16] [] rfl rfl (by decide) (by decide) (za_runV C hP hD hS [0, 1, 2, 3, 4, 5, 6, 7, 8, 9, 10, 11, 12, 13, 14, 15, 16] rfl (by decide) rfl (kX1_hasNoBitFrom l g E o d X B hI hB) w_800 mX1_hasNoBitFrom 1 rfl rfl rfl rfl hl.1 rfl (Nat.le_of_ble_eq_true rfl) dX1_isBelowPowerOfTwo_74 ⟨Nat.le_of_ble_eq_true rfl, Nat.le_of_ble_eq_true rfl⟩ ⟨Nat.le_refl _, Nat.le_refl _⟩) (fun r1 _ H locs hr1 hP hD hS => ?_)
      subst hr1
      have hP : va_P g.1 vwCl (zc_ws g o d X) H := hP
      have hD : va_D A (zc_ws g o d X) := hD
      exact zc_riw hQ hx hb hr hlocks hK hP hD hS (by first | rfl | exact z_nar01 (zk_nobit_01 _ _ _ _)) (by unfold zk_below; rw [e2, if_neg (by decide), e1]) (by exact e1.symm) (Nat.le_refl _) (Nat.le_refl _) dX1_isBelowPowerOfTwo_77
    · have hlt : i < (zk_fact N k 8).toNatClampNeg := (z_ltc (by omega)).mp c_39
      refine lv_aload_n hx hb dX1_isBelowPowerOfTwo_42 rfl (lv_at hl 0 rfl) ?_
      refine lv_iload_n hx hb dX1_isBelowPowerOfTwo_43 rfl (lv_at hl 3 rfl) ?_
      refine lv_aload_n hx hb dX1_isBelowPowerOfTwo_44 rfl (lv_at hl 0 rfl) ?_
      refine va_get (ci := 1) (v := .ref (o 7)) hx hb hts iX1 hown hK hP 1 rfl rfl 0 (by decide) (hts _ w_255) (fun _ h9 => h9) rfl dX1_isBelowPowerOfTwo_45 ?_
      refine lv_iload_n hx hb dX1_isBelowPowerOfTwo_48 rfl (lv_at hl 1 rfl) ?_
      refine lv_iload hx hb dX1_isBelowPowerOfTwo_49 (lv_at hl 5 rfl) ?_
      refine za_ci (wc := zc_ws g o d X) (wr := []) C hP hD hS [0, 1, 2, 3, 4, 5, 6, 7, 8, 9, 10, 11, 12, 13, 14, 15, 16] [] rfl rfl (by decide) (by decide) (za_runV C hP hD hS [0, 1, 2, 3, 4, 5, 6, 7, 8, 9, 10, 11, 12, 13, 14, 15, 16] rfl (by decide) rfl (kX8_byteOfToken l g E o d X k (nI i) hI ) w_781 mX8_byteOfToken 7 rfl rfl rfl rfl hl.1 rfl (Nat.le_of_ble_eq_true rfl) dX1_isBelowPowerOfTwo_51 ⟨Nat.le_of_ble_eq_true rfl, Nat.le_of_ble_eq_true rfl⟩ ⟨Nat.le_refl _, Nat.le_refl _⟩) (fun r2 _ H locs hr2 hP hD hS => ?_)
      subst hr2
      have hP : va_P g.1 vwCl (zc_ws g o d X) H := hP
      have hD : va_D A (zc_ws g o d X) := hD
      refine lv_iload_n hx hb dX1_isBelowPowerOfTwo_54 rfl (lv_at hl 3 rfl) ?_
      refine za_ci (wc := []) (wr := zc_ws g o d X) C hP hD hS [] [0, 1, 2, 3, 4, 5, 6, 7, 8, 9, 10, 11, 12, 13, 14, 15, 16] rfl rfl (by decide) (by decide) (za_runSN C hP hD hS [] rfl (by decide) rfl (kX9_digitOf l g E (zk_byteOf X k (nI i)) (zk_fact N k 7) ) zn_X1_36 mX9_digitOf rfl hl.1 rfl (Nat.le_of_ble_eq_true rfl) dX1_isBelowPowerOfTwo_55 ⟨Nat.le_of_ble_eq_true rfl, Nat.le_of_ble_eq_true rfl⟩ ⟨Nat.le_refl _, Nat.le_refl _⟩) (fun r3 _ H locs hr3 hP hD hS => ?_)
      subst hr3
      have hP : va_P g.1 vwCl (zc_ws g o d X) H := hP
      have hD : va_D A (zc_ws g o d X) := hD
      refine za_ci (wc := zc_ws g o d X) (wr := []) C hP hD hS [0, 1, 2, 3, 4, 5, 6, 7, 8, 9, 10, 11, 12, 13, 14, 15, 16] [] rfl rfl (by decide) (by decide) (za_runV C hP hD hS [0, 1, 2, 3, 4, 5, 6, 7, 8, 9, 10, 11, 12, 13, 14, 15, 16] rfl (by decide) rfl (kX1_appendDigit l g E o d X (zk_fact N k 7) (zk_digitOf (zk_byteOf X k (nI i)) (zk_fact N k 7)) hI ) w_795 mX1_appendDigit 1 rfl rfl rfl rfl hl.1 rfl (Nat.le_of_ble_eq_true rfl) dX1_isBelowPowerOfTwo_58 ⟨Nat.le_of_ble_eq_true rfl, Nat.le_of_ble_eq_true rfl⟩ ⟨Nat.le_refl _, Nat.le_refl _⟩) (fun r4 N4 H locs hN4 hP hD hS => ?_)
      obtain ⟨hr4, hN4⟩ := hN4
      have hI : zc_I N4 := by rw [hN4]; exact zi_appD hI _ _
      have hP : va_P g.1 vwCl (zc_ws g o d N4) H := hP
      have hD : va_D A (zc_ws g o d N4) := hD
      refine lv_if_ne (tgt := 66) hx hb dX1_isBelowPowerOfTwo_61 (by decide) (fun c_61 => ?_) (fun c_61 => ?_)
      · refine lv_iinc (v := nI (i + 1)) (lv' := [(5, .int (nI (i + 1))), (0, .ref (o 1)), (1, .int k), (2, .int (nI B)), (3, .int (zk_fact N k 7)), (4, .int (zk_fact N k 8))]) hx hb dX1_isBelowPowerOfTwo_66 hl (k := 5) rfl (nI_1 _) (by decide) rfl (fun ls hl => ?_)
        refine lv_goto (tgt := 35) hx hb dX1_isBelowPowerOfTwo_69 (by decide) ?_
        exact ih (i + 1) N4 (by omega) (by rw [hN4]; exact ⟨zc_appD_b.1.trans hX.1, zc_appD_b.2.1.trans hX.2.1, zc_appD_b.2.2.trans hX.2.2⟩) (⟨by rw [hres.1, zk_pow_s (j := (zk_fact N k 8).toNatClampNeg - (i + 1)) (by omega), ← hr4, if_neg c_61, ← hN4], by rw [hres.2, zc_pow_s (j := (zk_fact N k 8).toNatClampNeg - (i + 1)) (by omega), ← hr4, if_neg c_61, ← hN4]⟩) (by omega) H locs ls hS hP hD hI (lv_sub hl [1, 2, 3, 4, 5, 0] rfl)
      · refine lv_iconst (v := 0) hx hb dX1_isBelowPowerOfTwo_64 (by decide) ?_
        exact zc_riw hQ hx hb hr hlocks hK hP hD hS (by first | rfl | exact z_nar01 (zk_nobit_01 _ _ _ _)) (by unfold zk_below; rw [hres.1, zk_pow_s (j := (zk_fact N k 8).toNatClampNeg - (i + 1)) (by omega), ← hr4, if_pos c_61, if_pos rfl]) (by unfold zc_below; rw [hres.2, zc_pow_s (j := (zk_fact N k 8).toNatClampNeg - (i + 1)) (by omega), ← hr4, if_pos c_61]; exact hN4) (Nat.le_refl _) (Nat.le_refl _) dX1_isBelowPowerOfTwo_65
set_option maxHeartbeats 4000000 in
set_option maxRecDepth 100000 in
theorem kX1_isBelowPowerOfTwo (l : Launch) (g : za_G) (E : za_E) (o d : Nat → Nat) (N : zc_N) (k : Int32) (B : Nat) (hI : zc_I N) (hB : B < 513) : za_Ci l g E yX1_isBelowPowerOfTwo cX1_isBelowPowerOfTwo 6 ((some .boolean)) 4 0 0 [.ref (o 1), .int k, .int (nI B)] (zc_ws g o d N) (fun r (u : zc_N) => r = zk_below N k B ∧ u = zc_below N k) (fun u => zc_ws g o d u) := by
  refine za_begin (by decide) (Nat.le_of_ble_eq_true rfl) RX1 rfl ?_
  intro p e s m args below meth co A ls Q H locs C hQ hr hlocks hnm hS hP hD hl
  obtain ⟨hx, hb, hml, hown, hts, hK, hA, hE⟩ := id C
  have hl : lv_has ls 6 [(0, .ref (o 1)), (1, .int k), (2, .int (nI B))] := hl
  refine lv_aload_n hx hb dX1_isBelowPowerOfTwo_0 rfl (lv_at hl 0 rfl) ?_
  refine va_get (ci := 1) (v := .ref (o 7)) hx hb hts iX1 hown hK hP 1 rfl rfl 0 (by decide) (hts _ w_255) (fun _ h9 => h9) rfl dX1_isBelowPowerOfTwo_1 ?_
  refine lv_iload_n hx hb dX1_isBelowPowerOfTwo_4 rfl (lv_at hl 1 rfl) ?_
  refine lv_bipush (v := 7) hx hb dX1_isBelowPowerOfTwo_5 (by decide) ?_
  refine za_ci (wc := zc_ws g o d N) (wr := []) C hP hD hS [0, 1, 2, 3, 4, 5, 6, 7, 8, 9, 10, 11, 12, 13, 14, 15, 16] [] rfl rfl (by decide) (by decide) (za_runV C hP hD hS [0, 1, 2, 3, 4, 5, 6, 7, 8, 9, 10, 11, 12, 13, 14, 15, 16] rfl (by decide) rfl (kX8_fact l g E o d N k 7 hI ) w_776 mX8_fact 7 rfl rfl rfl rfl hl.1 rfl (Nat.le_of_ble_eq_true rfl) dX1_isBelowPowerOfTwo_7 ⟨Nat.le_of_ble_eq_true rfl, Nat.le_of_ble_eq_true rfl⟩ ⟨Nat.le_refl _, Nat.le_refl _⟩) (fun r1 _ H locs hr1 hP hD hS => ?_)
  subst hr1
  have hP : va_P g.1 vwCl (zc_ws g o d N) H := hP
  have hD : va_D A (zc_ws g o d N) := hD
  refine lv_istore_n (lv' := [(3, .int (zk_fact N k 7)), (0, .ref (o 1)), (1, .int k), (2, .int (nI B))]) hx hb dX1_isBelowPowerOfTwo_10 rfl hl (by decide) rfl (fun ls hl => ?_)
  refine lv_aload_n hx hb dX1_isBelowPowerOfTwo_11 rfl (lv_at hl 1 rfl) ?_
  refine va_get (ci := 1) (v := .ref (o 7)) hx hb hts iX1 hown hK hP 1 rfl rfl 0 (by decide) (hts _ w_255) (fun _ h9 => h9) rfl dX1_isBelowPowerOfTwo_12 ?_
  refine lv_iload_n hx hb dX1_isBelowPowerOfTwo_15 rfl (lv_at hl 2 rfl) ?_
  refine lv_bipush (v := 8) hx hb dX1_isBelowPowerOfTwo_16 (by decide) ?_
  refine za_ci (wc := zc_ws g o d N) (wr := []) C hP hD hS [0, 1, 2, 3, 4, 5, 6, 7, 8, 9, 10, 11, 12, 13, 14, 15, 16] [] rfl rfl (by decide) (by decide) (za_runV C hP hD hS [0, 1, 2, 3, 4, 5, 6, 7, 8, 9, 10, 11, 12, 13, 14, 15, 16] rfl (by decide) rfl (kX8_fact l g E o d N k 8 hI ) w_776 mX8_fact 7 rfl rfl rfl rfl hl.1 rfl (Nat.le_of_ble_eq_true rfl) dX1_isBelowPowerOfTwo_18 ⟨Nat.le_of_ble_eq_true rfl, Nat.le_of_ble_eq_true rfl⟩ ⟨Nat.le_refl _, Nat.le_refl _⟩) (fun r2 _ H locs hr2 hP hD hS => ?_)
  subst hr2
  have hP : va_P g.1 vwCl (zc_ws g o d N) H := hP
  have hD : va_D A (zc_ws g o d N) := hD
  refine lv_istore (lv' := [(4, .int (zk_fact N k 8)), (3, .int (zk_fact N k 7)), (0, .ref (o 1)), (1, .int k), (2, .int (nI B))]) hx hb dX1_isBelowPowerOfTwo_21 hl (by decide) rfl (fun ls hl => ?_)
  refine lv_aload_n hx hb dX1_isBelowPowerOfTwo_23 rfl (lv_at hl 2 rfl) ?_
  refine lv_iconst (v := 0) hx hb dX1_isBelowPowerOfTwo_24 (by decide) ?_
  refine va_put (ci := 1) (fs := zc_f1 o d N.1) (v := .int 0) hx hb hts iX1 tyX1 tyX1_ok nmX1 hown hK hP hD hS 1 rfl rfl 2 (by decide) (hts _ w_257) (fun _ h9 => h9) rfl (tyX1_ok 2 (by decide)) rfl rfl (Nat.le_of_ble_eq_true rfl) dX1_isBelowPowerOfTwo_25 (fun H locs hP hD hS => ?_)
  have hP := zc_pf12 (X := N) hP
  have hD := zc_df12 (X := N) hD
  have hI : zc_I (zc_s N 12 0) := (zi_120 hI)
  refine lv_aload_n hx hb dX1_isBelowPowerOfTwo_28 rfl (lv_at hl 2 rfl) ?_
  refine lv_iload_n hx hb dX1_isBelowPowerOfTwo_29 rfl (lv_at hl 3 rfl) ?_
  refine za_ci (wc := zc_ws g o d (zc_s N 12 0)) (wr := []) C hP hD hS [0, 1, 2, 3, 4, 5, 6, 7, 8, 9, 10, 11, 12, 13, 14, 15, 16] [] rfl rfl (by decide) (by decide) (za_runV C hP hD hS [0, 1, 2, 3, 4, 5, 6, 7, 8, 9, 10, 11, 12, 13, 14, 15, 16] rfl (by decide) rfl (kX1_firstDigit l g E o d (zc_s N 12 0) k hI ) w_777 mX1_firstDigit 1 rfl rfl rfl rfl hl.1 rfl (Nat.le_of_ble_eq_true rfl) dX1_isBelowPowerOfTwo_30 ⟨Nat.le_of_ble_eq_true rfl, Nat.le_of_ble_eq_true rfl⟩ ⟨Nat.le_refl _, Nat.le_refl _⟩) (fun r3 _ H locs hr3 hP hD hS => ?_)
  subst hr3
  have hP : va_P g.1 vwCl (zc_ws g o d (zc_s N 12 0)) H := hP
  have hD : va_D A (zc_ws g o d (zc_s N 12 0)) := hD
  refine lv_istore (lv' := [(5, .int (zk_fd (zc_s N 12 0) k)), (4, .int (zk_fact N k 8)), (3, .int (zk_fact N k 7)), (0, .ref (o 1)), (1, .int k), (2, .int (nI B))]) hx hb dX1_isBelowPowerOfTwo_33 hl (by decide) rfl (fun ls hl => ?_)
  have hfd : zk_fd (zc_s N 12 0) k = nI (zk_fd N k).toNatClampNeg := (zk_fd_nI N k).1
  rw [hfd] at hl
  exact kL_below l g E o d N k B hB C hQ hr hlocks _ (zk_fd N k).toNatClampNeg (zc_s N 12 0) (Or.inl (zk_fd_nI N k).2) ⟨rfl, rfl, rfl⟩ ⟨rfl, rfl⟩ (Nat.lt_succ_self _) H locs ls hS hP hD hI (lv_sub hl [3, 4, 5, 2, 1, 0] rfl)
