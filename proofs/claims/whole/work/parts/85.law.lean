/-! The law, whole. -/
theorem zl_R.more {N : zc_N} {M : zm_M} {j : Nat} (h : zl_R N M j) : zl_R N M (j + 1) := by
  obtain ⟨⟨n, t, k, h1, h2⟩, h3⟩ := h
  exact ⟨⟨n, t, k, h1, by omega⟩, h3⟩
set_option maxHeartbeats 4000000 in
set_option maxRecDepth 100000 in
/-- the law's loop, at its head: j calls made -/
theorem zl_loop {p : Program} {l : Launch} {e : Env} {s : State} {m : MethodId} {below : List Frame} {meth : Method} {c : Code} {g : za_G} {E : za_E} {o ad : Nat → Nat} {h ob b L : Nat} {xs : Nat → Int32} (C : za_H p s m #[Value.ref b] c cL_law 8 RL g E (fun q : Nat => s.heap.size ≤ q)) (hX : zx_env (fun q : Nat => s.heap.size ≤ q) s s.heap) (hl0 : l.stackTraces = false) (hXs : va_X b L xs s s.heap) (hbl : b < s.heap.size) (hL : L ≤ 3072) (hret : meth.sig.returnType = ret) (hlocks : meth.locks = false) :
    ∀ (n j : Nat), j ≤ 512 → 512 < j + n → ∀ (d : Nat → Nat) (N : zc_N) (M : zm_M) (f : Nat → Int64) (H : Heap) (locs : List Loc) (cells slots : Nat) (ls : Array Slot), zl_ok g o h ad ob s j d N M f H locs cells slots → lv_has ls 8 [(0, .ref b), (1, .ref (o 8)), (2, .ref h), (3, .ref ob), (4, .int (nI (6 * j)))] → W p l e room_1 s m #[Value.ref b] below meth c H locs cells slots (lw_Z below #[Value.ref b] s) (F0 m 23 ls []) := by
  intro n
  induction n with
  | zero => intro j h1 h2; exact absurd h2 (by omega)
  | succ n ih =>
    intro j hj1 hj2 d N M f H locs cells slots ls hok hl
    obtain ⟨hx, hb, hml, hown, hts, hK, hA, hE⟩ := id C
    have hbA : ¬ (fun q : Nat => s.heap.size ≤ q) b := Nat.not_le.mpr hbl
    obtain ⟨hR9, hcl, hsl, hP, hD, hS⟩ := id hok
    have hLe := zc_L_le hR9.1.choose_spec.choose_spec.choose_spec.1.1
    refine lv_iload hx hb dL_law_23 (lv_at hl 4 rfl) ?_
    refine lv_aload_n hx hb dL_law_25 rfl (lv_at hl 0 rfl) ?_
    refine va_slen hx hb hXs hbl hbA hS dL_law_26 ?_
    refine lv_bipush (v := 6) hx hb dL_law_27 (by decide) ?_
    refine lv_isub hx hb dL_law_29 ?_
    refine lv_icmp_gt (tgt := 547) hx hb dL_law_30 (by decide) (fun _ => ?_) (fun cj => ?_)
    · refine lv_iconst (v := 1) hx hb dL_law_547 (by decide) ?_
      refine va_forget (fun q hq => hS.2.2 q hq) ?_
      refine W.widen (k := 601024) (n := 7293033) (by omega) (by omega) ?_
      exact lw_ret hx hb hret hlocks dL_law_548
    · have hj : 6 * j + 6 ≤ L := by
        have e1 : (nI L - nI 6).toInt = (L : Int) - 6 := pk_sub_toInt (by omega) (by decide)
        have e2 : (nI (6 * j)).toInt = ((6 * j : Nat) : Int) := nI_toInt (by omega)
        have cj : ¬ nI L - nI 6 < nI (6 * j) := cj
        rw [Int32.lt_iff_toInt_lt, e1, e2] at cj
        omega
      have kk : ∀ (d : Nat → Nat) (N : zc_N) (M : zm_M) (f : Nat → Int64) (H : Heap) (locs : List Loc) (cells slots : Nat) (ls : Array Slot), zl_ok g o h ad ob s (j + 1) d N M f H locs cells slots → lv_has ls 8 [(0, .ref b), (1, .ref (o 8)), (2, .ref h), (3, .ref ob), (4, .int (nI (6 * j)))] → W p l e room_1 s m #[Value.ref b] below meth c H locs cells slots (lw_Z below #[Value.ref b] s) (F0 m 541 ls []) := by
        intro d N M f H locs cells slots ls hok hl
        refine lv_iinc (v := nI (6 * (j + 1))) (lv' := [(4, .int (nI (6 * (j + 1)))), (0, .ref b), (1, .ref (o 8)), (2, .ref h), (3, .ref ob)]) hx hb dL_law_541 hl (k := 4) rfl (by show nI (6 * j) + nI 6 = nI (6 * (j + 1)); rw [nI_add, show 6 * (j + 1) = 6 * j + 6 from by omega]) (by decide) rfl (fun ls hl => ?_)
        refine lv_goto (tgt := 23) hx hb dL_law_544 (by decide) ?_
        exact ih (j + 1) (by omega) (by omega) d N M f H locs cells slots ls hok (lv_sub hl [1, 2, 3, 4, 0] rfl)
      refine lv_aload_n hx hb dL_law_33 rfl (lv_at hl 0 rfl) ?_
      refine lv_iload hx hb dL_law_34 (lv_at hl 4 rfl) ?_
      refine va_sld hx hb hXs hbl hbA hS (vp_in_nI (by omega) (by omega)) dL_law_36 ?_
      refine lv_bipush (v := 15) hx hb dL_law_37 (by decide) ?_
      refine lv_iand hx hb dL_law_39 ?_
      obtain ⟨v, hv, hve⟩ := pk_andE (xs (nI (6 * j)).toNatClampNeg) (m := 15) 4 (by decide)
      refine za_top hve ?_
      have hc : v = 0 ∨ v = 1 ∨ v = 2 ∨ v = 3 ∨ v = 4 ∨ v = 5 ∨ v = 6 ∨ v = 7 ∨ v = 8 ∨ v = 9 ∨ v = 10 ∨ v = 11 ∨ v = 12 ∨ v = 13 ∨ v = 14 ∨ v = 15 := by omega
      rcases hc with rfl | rfl | rfl | rfl | rfl | rfl | rfl | rfl | rfl | rfl | rfl | rfl | rfl | rfl | rfl | rfl
      · refine lv_tableIn (off := 60) (tgt := 100) hx hb dL_law_40 (by decide) (by decide) rfl (by decide) ?_
        exact zl_c0 C hX hl0 hXs hbl hj hL hok hl kk
      · refine lv_tableIn (off := 133) (tgt := 173) hx hb dL_law_40 (by decide) (by decide) rfl (by decide) ?_
        exact zl_c1 C hX hl0 hXs hbl hj hL hok hl kk
      · refine lv_tableIn (off := 158) (tgt := 198) hx hb dL_law_40 (by decide) (by decide) rfl (by decide) ?_
        exact zl_c2 C hX hl0 hXs hbl hj hL hok hl kk
      · refine lv_tableIn (off := 171) (tgt := 211) hx hb dL_law_40 (by decide) (by decide) rfl (by decide) ?_
        exact zl_c3 C hX hl0 hXs hbl hj hL hok hl kk
      · refine lv_tableIn (off := 184) (tgt := 224) hx hb dL_law_40 (by decide) (by decide) rfl (by decide) ?_
        exact zl_c4 C hX hl0 hXs hbl hj hL hok hl kk
      · refine lv_tableIn (off := 197) (tgt := 237) hx hb dL_law_40 (by decide) (by decide) rfl (by decide) ?_
        exact zl_c5 C hX hl0 hXs hbl hj hL hok hl kk
      · refine lv_tableIn (off := 265) (tgt := 305) hx hb dL_law_40 (by decide) (by decide) rfl (by decide) ?_
        exact zl_c6 C hX hl0 hXs hbl hj hL hok hl kk
      · refine lv_tableIn (off := 333) (tgt := 373) hx hb dL_law_40 (by decide) (by decide) rfl (by decide) ?_
        exact zl_c7 C hX hl0 hXs hbl hj hL hok hl kk
      · refine lv_tableIn (off := 388) (tgt := 428) hx hb dL_law_40 (by decide) (by decide) rfl (by decide) ?_
        exact zl_c8 C hX hl0 hXs hbl hj hL hok hl kk
      · refine lv_tableIn (off := 463) (tgt := 503) hx hb dL_law_40 (by decide) (by decide) rfl (by decide) ?_
        exact zl_c9 C hX hl0 hXs hbl hj hL hok hl kk
      · refine lv_tableIn (off := 476) (tgt := 516) hx hb dL_law_40 (by decide) (by decide) rfl (by decide) ?_
        exact zl_c10 C hX hl0 hXs hbl hj hL hok hl kk
      · refine lv_tableOut (tgt := 541) hx hb dL_law_40 (by decide) (by decide) ?_
        exact kk d N M f H locs cells slots ls ⟨hR9.more, by omega, by omega, hP, hD, hS⟩ hl
      · refine lv_tableOut (tgt := 541) hx hb dL_law_40 (by decide) (by decide) ?_
        exact kk d N M f H locs cells slots ls ⟨hR9.more, by omega, by omega, hP, hD, hS⟩ hl
      · refine lv_tableOut (tgt := 541) hx hb dL_law_40 (by decide) (by decide) ?_
        exact kk d N M f H locs cells slots ls ⟨hR9.more, by omega, by omega, hP, hD, hS⟩ hl
      · refine lv_tableOut (tgt := 541) hx hb dL_law_40 (by decide) (by decide) ?_
        exact kk d N M f H locs cells slots ls ⟨hR9.more, by omega, by omega, hP, hD, hS⟩ hl
      · refine lv_tableOut (tgt := 541) hx hb dL_law_40 (by decide) (by decide) ?_
        exact kk d N M f H locs cells slots ls ⟨hR9.more, by omega, by omega, hP, hD, hS⟩ hl
theorem zm_fs0_ok : ∀ j : Nat, j < 44 → defaultValue (tyX10 j) = vp_V zm_fs0 j := by decide +kernel
set_option maxHeartbeats 4000000 in
set_option maxRecDepth 100000 in
/-- the law, from its entry -/
theorem whole_start {p : Program} {e : Env} {s : State} {m : MethodId} {below : List Frame} {meth : Method} {c : Code} (l : Launch) (hl0 : l.stackTraces = false) {b L : Nat} {xs : Nat → Int32} (hL : L ≤ 3072) (C0 : lw_At p s m meth c b L xs) : W p l e room_1 s m #[Value.ref b] below meth c s.heap [] 0 0 (lw_Z below #[Value.ref b] s) (entryFrame m ([Value.ref b] : List Value).toArray 8) := by
  obtain ⟨g, E, C, hXe⟩ := zl_start C0
  obtain ⟨-, -, hret, -, -, -, hXs, hbl, hlocks, -⟩ := id C0
  obtain ⟨hx, hb, hml, hown, hts, hK, hA, hE⟩ := id C
  have hS : va_S (fun q : Nat => s.heap.size ≤ q) s.heap s.heap [] := va_S.rf
  have hP : va_P g.1 vwCl [] s.heap := fun k q h => by simp at h
  have hD : va_D (fun q : Nat => s.heap.size ≤ q) [] := ⟨fun i j p q h => by simp at h, fun k q h => by simp at h⟩
  have hl := lv_entry ([.ref b]) (n := 8) (Nat.le_of_ble_eq_true rfl)
  rw [lg_entry_eq]
  generalize (lg_sl ([.ref b]) ++ List.replicate (8 - (lg_sl ([.ref b])).length) Slot.unset).toArray = ls at hl ⊢
  have hl : lv_has ls 8 [(0, .ref b)] := hl
  refine va_new (ci := 8) (fs := [.null, .null, .null, .null]) hx hb hts iX9 tyX9 tyX9_ok hown (hts _ w_79) (hts _ w_80) (hts _ w_57) hK hP hD hS hA rfl (fun j hj => by rcases j with _ | _ | _ | _ | j <;> first | rfl | omega) (Nat.le_of_ble_eq_true rfl) (Nat.le_of_ble_eq_true rfl) dL_law_0 (fun q1 H hP hD hS => ?_)
  have hP : va_P g.1 vwCl [(q1, .inr (8, [.null, .null, .null, .null]))] H := hP
  have hD : va_D (fun q : Nat => s.heap.size ≤ q) [(q1, .inr (8, [.null, .null, .null, .null]))] := hD
  refine lv_dup hx hb dL_law_3 rfl ?_
  refine za_cv (wc := [(q1, .inr (8, [.null, .null, .null, .null]))]) (wr := []) C hP hD hS [0] [] rfl rfl (by decide) (by decide) (za_runI C hP hD hS [0] rfl (by decide) rfl (kX9_init l g E q1) w_81 mX9_init rfl hl.1 rfl (Nat.le_of_ble_eq_true rfl) dL_law_4 ⟨Nat.le_of_ble_eq_true rfl, Nat.le_of_ble_eq_true rfl⟩ ⟨Nat.le_of_ble_eq_true rfl, Nat.le_of_ble_eq_true rfl⟩) (fun u H locs _ hP hD hS => ?_)
  obtain ⟨o, ho⟩ : ∃ o : Nat → Nat, o = fun k => if k = 8 then q1 else u.1 k := ⟨_, rfl⟩
  have ho8 : o 8 = q1 := by rw [ho]; rfl
  have hP : va_P g.1 vwCl (zc_ws g o u.2 zc_N0) H := by rw [ho]; exact hP
  have hD : va_D (fun q : Nat => s.heap.size ≤ q) (zc_ws g o u.2 zc_N0) := by rw [ho]; exact hD
  clear ho
  generalize u.2 = d at hP hD
  refine lv_astore_n (lv' := [(1, .ref q1), (0, .ref b)]) hx hb dL_law_7 rfl hl (by decide) rfl (fun ls hl => ?_)
  refine va_new (ci := 9) (fs := zm_fs0) hx hb hts iX10 tyX10 tyX10_ok hown (hts _ w_804) (hts _ w_805) (hts _ w_67) hK hP hD hS hA rfl (fun j hj => zm_fs0_ok j hj) (Nat.le_of_ble_eq_true rfl) (Nat.le_of_ble_eq_true rfl) dL_law_8 (fun h H hP hD hS => ?_)
  have hP : va_P g.1 vwCl (zc_ws g o d zc_N0 ++ [(h, .inr (9, zm_fs0))]) H := hP
  have hD : va_D (fun q : Nat => s.heap.size ≤ q) (zc_ws g o d zc_N0 ++ [(h, .inr (9, zm_fs0))]) := hD
  refine lv_dup hx hb dL_law_11 rfl ?_
  refine za_cv (wc := [(h, .inr (9, zm_fs0))]) (wr := zc_ws g o d zc_N0) C hP hD hS [17] [0, 1, 2, 3, 4, 5, 6, 7, 8, 9, 10, 11, 12, 13, 14, 15, 16] rfl rfl (by decide) (by decide) (za_runI C hP hD hS [17] rfl (by decide) rfl (kX10_init l g E h) w_806 mX10_init rfl hl.1 rfl (Nat.le_of_ble_eq_true rfl) dL_law_12 ⟨Nat.le_of_ble_eq_true rfl, Nat.le_of_ble_eq_true rfl⟩ ⟨Nat.le_of_ble_eq_true rfl, Nat.le_of_ble_eq_true rfl⟩) (fun ad H locs _ hP hD hS => ?_)
  refine lv_astore_n (lv' := [(2, .ref h), (1, .ref q1), (0, .ref b)]) hx hb dL_law_15 rfl hl (by decide) rfl (fun ls hl => ?_)
  refine lv_iconst (v := 1) hx hb dL_law_16 (by decide) ?_
  refine za_newa (atype := .long) (N' := 1) (a0 := (1, .inr (.inl (fun _ => 0)))) hx hb (hts _ w_265) rfl hK 2 rfl hP hD hS hA (fun _ => rfl) (by decide) rfl (by decide) (Nat.le_of_ble_eq_true rfl) (Nat.le_of_ble_eq_true rfl) dL_law_17 (fun ob H hP hD hS => ?_)
  refine lv_astore_n (lv' := [(3, .ref ob), (2, .ref h), (1, .ref q1), (0, .ref b)]) hx hb dL_law_19 rfl hl (by decide) rfl (fun ls hl => ?_)
  refine lv_iconst (v := 0) hx hb dL_law_20 (by decide) ?_
  refine lv_istore (lv' := [(4, .int 0), (3, .ref ob), (2, .ref h), (1, .ref q1), (0, .ref b)]) hx hb dL_law_21 hl (by decide) rfl (fun ls hl => ?_)
  rw [← ho8] at hl
  refine zl_loop (o := o) (ad := ad) (h := h) (ob := ob) C hXe hl0 hXs hbl hL hret hlocks 513 0 (by omega) (by omega) d zc_N0 zm_M0 (fun _ => 0) H _ _ _ ls ⟨zl_R0, by omega, by omega, hP.sub (ws' := zl_w g o d zc_N0 h ad zm_M0 ob (fun _ => 0)) [0, 1, 2, 3, 4, 5, 6, 7, 8, 9, 10, 11, 12, 13, 14, 15, 16, 17, 18, 19, 20, 21, 22, 23, 24, 25, 26, 27, 28, 29, 30, 31, 32, 33, 34, 35] rfl, hD.sub (ws' := zl_w g o d zc_N0 h ad zm_M0 ob (fun _ => 0)) [0, 1, 2, 3, 4, 5, 6, 7, 8, 9, 10, 11, 12, 13, 14, 15, 16, 17, 18, 19, 20, 21, 22, 23, 24, 25, 26, 27, 28, 29, 30, 31, 32, 33, 34, 35] (by decide) rfl, hS⟩ (lv_sub hl [4, 3, 2, 1, 0] rfl)
