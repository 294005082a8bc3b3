def zc_feed (N : zc_N) (a b c d e : Int32) : zc_N := if zk_makeRoom N 20 = 0 then zc_makeRoom N 20 else zc_four (zc_four (zc_four (zc_four (zc_four (zc_makeRoom N 20) a) b) c) d) e
def zk_feed (N : zc_N) : Int32 := if zk_makeRoom N 20 = 0 then 0 else 1
theorem zi_put60 {N : zc_N} (hI : zc_I N) {v : Int32} (hv : fits .byte (.int v) = true) (h : N.1 61 < nI (N.2.2.2 60)) : zc_I (zc_put N v) := by
  have hl := zc_len hI 60 (by decide)
  obtain ⟨i1, ⟨u, u1, u2⟩, i3, i4, i5, i6, i7, i8⟩ := hI
  rw [u1] at h
  have h9 : u < N.2.2.2 60 := z_lit (by omega) (by omega) h
  refine ⟨i1, ⟨u + 1, ?_, h9⟩, i3, i4, i5, i6, i7, fun i => ?_⟩
  · show N.1 61 + 1 = nI (u + 1)
    rw [u1, nI_1]
  · show fits .byte (.int (upd (N.2.1 60) (N.1 61).toNatClampNeg v i)) = true
    rw [zq_upd]
    split
    · exact hv
    · exact i8 i
theorem zk_byte_fits (v k : Int32) : fits .byte (.int (zk_byte v k)) = true := z_byte8 _
theorem zi_four {N : zc_N} (hI : zc_I N) (v : Int32) : zc_I (zc_four N v) := by
  unfold zc_four
  split
  · rename_i h1
    have g1 := zi_put60 hI (zk_byte_fits v 24) h1
    split
    · rename_i h2
      have g2 := zi_put60 g1 (zk_byte_fits v 16) h2
      split
      · rename_i h3
        have g3 := zi_put60 g2 (zk_byte_fits v 8) h3
        split
        · rename_i h4
          exact zi_put60 g3 (zk_byte_fits v 0) h4
        · exact g3
      · exact g2
    · exact g1
  · exact hI
theorem zL_four {N : zc_N} {v : Int32} : zc_L (zc_four N v) = zc_L N := by
  unfold zc_four
  split
  · split
    · split
      · split <;> rfl
      · rfl
    · rfl
  · rfl
theorem zi_feed {N : zc_N} (hI : zc_I N) (a b c d e : Int32) : zc_I (zc_feed N a b c d e) := by
  unfold zc_feed
  split
  · exact zi_makeRoom hI _
  · exact zi_four (zi_four (zi_four (zi_four (zi_four (zi_makeRoom hI _) _) _) _) _) _
theorem zl_feed {N : zc_N} (a b c d e : Int32) : zc_L N ≤ zc_L (zc_feed N a b c d e) := by
  unfold zc_feed
  split
  · exact zl_makeRoom _
  · rw [zL_four, zL_four, zL_four, zL_four, zL_four]
    exact zl_makeRoom _
set_option maxHeartbeats 4000000 in
set_option maxRecDepth 100000 in
theorem kL_line (l : Launch) (g : za_G) (E : za_E) (o d : Nat → Nat) (N : zc_N)   {p : Program} {e : Env} {s : State} {m : MethodId} {args : Array Value} {below : List Frame} {meth : Method} {co : Code} {A : Nat → Prop} {Q : State → Prop} (C : za_H p s m args co cX5_passLineComment 4 RX5 g E A) (hQ : Q = MQ below (za_qv g (fun u : zc_N × (Nat → Nat) => u.1 = zc_lineC N) (fun u => zc_ws g o u.2 u.1) A) args s (zc_L (zc_lineC N) - zc_L N) (2 * (zc_L (zc_lineC N) - zc_L N)) A) (hr : meth.sig.returnType = none) (hlocks : meth.locks = false)  : ∀ (n_ : Nat) (k : Nat) (X : zc_N) (gg : Int32), (k ≤ 65536) → (zc_lineC N = zc_lineG k X gg) → k < n_ → ∀ (d1 : Nat → Nat) (cells slots : Nat) (H : Heap) (locs : List Loc) (ls : Array Slot), va_S A s.heap H locs → va_P g.1 vwCl (zc_ws g o d1 X) H → va_D A (zc_ws g o d1 X) → zb_c N X cells slots → zc_I X → lv_has ls 4 [(0, .ref (o 5)), (1, .int gg), (2, .int (nI (65536 - k)))] → W p l e (za_R 6 (zc_rc N) (zc_rs N)) s m args below meth co H locs cells slots Q (F0 m 7 ls []) := by
  obtain ⟨hx, hb, hml, hown, hts, hK, hA, hE⟩ := id C
  intro n_
  induction n_ with
  | zero => intro k X gg hk6 hres hm; exact absurd hm (Nat.not_lt_zero _)
  | succ n_ ih =>
    intro k X gg hk6 hres hm d1 cells slots H locs ls hS hP hD hc hI hl
    refine lv_iload_n hx hb dX5_passLineComment_7 rfl (lv_at hl 2 rfl) ?_
    refine lv_ldc (v := 65536) hx hb hown (hts _ w_406) dX5_passLineComment_8 ?_
    refine za_icmp_ge (tgt := 59) hx hb dX5_passLineComment_10 (by decide) (fun c_10 => ?_) (fun c_10 => ?_)
    · have hk0 : k = 0 := by
        cases k with
        | zero => rfl
        | succ kk => exact absurd (nI_lt (show 65536 - (kk + 1) < 65536 by omega) (by decide)) c_10
      exact zc_rvg hQ hx hb hr hlocks hK hP hD hS hc (by rw [hres, hk0]; unfold zc_lineG; split <;> rfl) dX5_passLineComment_59
    · obtain ⟨kk, hk1⟩ : ∃ kk, k = kk + 1 := by
        cases k with
        | zero => exact absurd c_10 (by decide)
        | succ kk => exact ⟨kk, rfl⟩
      refine lv_iload_n hx hb dX5_passLineComment_13 rfl (lv_at hl 1 rfl) ?_
      refine lv_if_eq (tgt := 59) hx hb dX5_passLineComment_14 (by decide) (fun c_14 => ?_) (fun c_14 => ?_)
      · exact zc_rvg hQ hx hb hr hlocks hK hP hD hS hc (by rw [hres]; unfold zc_lineG; rw [if_pos c_14]) dX5_passLineComment_59
      · refine lv_aload_n hx hb dX5_passLineComment_17 rfl (lv_at hl 0 rfl) ?_
        refine va_get (ci := 5) (v := .ref (o 6)) hx hb hts iX5 hown hK hP 5 rfl rfl 0 (by decide) (hts _ w_221) (fun _ h9 => h9) rfl dX5_passLineComment_18 ?_
        refine za_ci (wc := zc_ws g o d1 X) (wr := []) C hP hD hS [0, 1, 2, 3, 4, 5, 6, 7, 8, 9, 10, 11, 12, 13, 14, 15, 16] [] rfl rfl (by decide) (by decide) (za_runV C hP hD hS [0, 1, 2, 3, 4, 5, 6, 7, 8, 9, 10, 11, 12, 13, 14, 15, 16] rfl (by decide) rfl (kX7_here l g E o d1 X  hI ) w_345 mX7_here 6 rfl rfl rfl rfl hl.1 rfl (Nat.le_of_ble_eq_true rfl) dX5_passLineComment_21 ⟨Nat.le_of_ble_eq_true rfl, Nat.le_of_ble_eq_true rfl⟩ (hc.le0 (zc_L_le hI))) (fun r1 _ H locs hr1 hP hD hS => ?_)
        subst hr1
        have hP : va_P g.1 vwCl (zc_ws g o d1 X) H := hP
        have hD : va_D A (zc_ws g o d1 X) := hD
        refine lv_istore_n (lv' := [(3, .int (zk_here X)), (0, .ref (o 5)), (1, .int gg), (2, .int (nI (65536 - k)))]) hx hb dX5_passLineComment_24 rfl hl (by decide) rfl (fun ls hl => ?_)
        refine lv_iload_n hx hb dX5_passLineComment_25 rfl (lv_at hl 0 rfl) ?_
        refine lv_bipush (v := 10) hx hb dX5_passLineComment_26 (by decide) ?_
        refine lv_icmp_eq (tgt := 51) hx hb dX5_passLineComment_28 (by decide) (fun c_28 => ?_) (fun c_28 => ?_)
        · refine lv_iconst (v := 0) hx hb dX5_passLineComment_51 (by decide) ?_
          refine lv_istore_n (lv' := [(1, .int 0), (3, .int (zk_here X)), (0, .ref (o 5)), (2, .int (nI (65536 - k)))]) hx hb dX5_passLineComment_52 rfl hl (by decide) rfl (fun ls hl => ?_)
          refine lv_iinc (v := nI (65536 - kk)) (lv' := [(2, .int (nI (65536 - kk))), (1, .int 0), (3, .int (zk_here X)), (0, .ref (o 5))]) hx hb dX5_passLineComment_53 hl (k := 3) rfl ((nI_1 _).trans (congrArg nI (by omega))) (by decide) rfl (fun ls hl => ?_)
          refine lv_goto (tgt := 7) hx hb dX5_passLineComment_56 (by decide) ?_
          exact ih kk X 0 (by omega) (by rw [hres]; unfold zc_lineG; rw [if_neg c_14, zc_line_s hk1, if_pos (Or.inl c_28), if_pos rfl]) (by omega) d1 cells slots H locs ls hS hP hD hc hI (lv_sub hl [3, 1, 0] rfl)
        · refine lv_iload_n hx hb dX5_passLineComment_31 rfl (lv_at hl 0 rfl) ?_
          refine lv_iconst (v := (-1)) hx hb dX5_passLineComment_32 (by decide) ?_
          refine lv_icmp_eq (tgt := 51) hx hb dX5_passLineComment_33 (by decide) (fun c_33 => ?_) (fun c_33 => ?_)
          · refine lv_iconst (v := 0) hx hb dX5_passLineComment_51 (by decide) ?_
            refine lv_istore_n (lv' := [(1, .int 0), (3, .int (zk_here X)), (0, .ref (o 5)), (2, .int (nI (65536 - k)))]) hx hb dX5_passLineComment_52 rfl hl (by decide) rfl (fun ls hl => ?_)
            refine lv_iinc (v := nI (65536 - kk)) (lv' := [(2, .int (nI (65536 - kk))), (1, .int 0), (3, .int (zk_here X)), (0, .ref (o 5))]) hx hb dX5_passLineComment_53 hl (k := 3) rfl ((nI_1 _).trans (congrArg nI (by omega))) (by decide) rfl (fun ls hl => ?_)
            refine lv_goto (tgt := 7) hx hb dX5_passLineComment_56 (by decide) ?_
            exact ih kk X 0 (by omega) (by rw [hres]; unfold zc_lineG; rw [if_neg c_14, zc_line_s hk1, if_pos (Or.inr c_33), if_pos rfl]) (by omega) d1 cells slots H locs ls hS hP hD hc hI (lv_sub hl [3, 1, 0] rfl)
          · refine lv_aload_n hx hb dX5_passLineComment_36 rfl (lv_at hl 1 rfl) ?_
            refine va_get (ci := 5) (v := .ref (o 6)) hx hb hts iX5 hown hK hP 5 rfl rfl 0 (by decide) (hts _ w_221) (fun _ h9 => h9) rfl dX5_passLineComment_37 ?_
            refine za_ci (wc := zc_ws g o d1 X) (wr := []) C hP hD hS [0, 1, 2, 3, 4, 5, 6, 7, 8, 9, 10, 11, 12, 13, 14, 15, 16] [] rfl rfl (by decide) (by decide) (za_runV C hP hD hS [0, 1, 2, 3, 4, 5, 6, 7, 8, 9, 10, 11, 12, 13, 14, 15, 16] rfl (by decide) rfl (kX7_character l g E o d1 X  hI ) w_407 mX7_character 6 rfl rfl rfl rfl hl.1 rfl (Nat.le_of_ble_eq_true rfl) dX5_passLineComment_40 ⟨Nat.le_of_ble_eq_true rfl, Nat.le_of_ble_eq_true rfl⟩ (hc.le0 (zc_L_le hI))) (fun r2 N2 H locs hN2 hP hD hS => ?_)
            obtain ⟨hr2, hN2⟩ := hN2
            have hI : zc_I N2 := by rw [hN2]; exact zi_char hI
            have hc : zb_c N N2 cells slots := by rw [hN2]; exact hc.eq zL_char
            have hP : va_P g.1 vwCl (zc_ws g o d1 N2) H := hP
            have hD : va_D A (zc_ws g o d1 N2) := hD
            refine lv_iconst (v := (-1)) hx hb dX5_passLineComment_43 (by decide) ?_
            refine lv_icmp_eq (tgt := 51) hx hb dX5_passLineComment_44 (by decide) (fun c_44 => ?_) (fun c_44 => ?_)
            · refine lv_iconst (v := 0) hx hb dX5_passLineComment_51 (by decide) ?_
              refine lv_istore_n (lv' := [(1, .int 0), (3, .int (zk_here X)), (0, .ref (o 5)), (2, .int (nI (65536 - k)))]) hx hb dX5_passLineComment_52 rfl hl (by decide) rfl (fun ls hl => ?_)
              refine lv_iinc (v := nI (65536 - kk)) (lv' := [(2, .int (nI (65536 - kk))), (1, .int 0), (3, .int (zk_here X)), (0, .ref (o 5))]) hx hb dX5_passLineComment_53 hl (k := 3) rfl ((nI_1 _).trans (congrArg nI (by omega))) (by decide) rfl (fun ls hl => ?_)
              refine lv_goto (tgt := 7) hx hb dX5_passLineComment_56 (by decide) ?_
              exact ih kk N2 0 (by omega) (by rw [hres]; unfold zc_lineG; rw [if_neg c_14, zc_line_s hk1, if_neg (fun h9 => by rcases h9 with h9 | h9; exact c_28 h9; exact c_33 h9), ← hr2, if_pos c_44, ← hN2, if_pos rfl]) (by omega) d1 cells slots H locs ls hS hP hD hc hI (lv_sub hl [3, 1, 0] rfl)
            · refine lv_iconst (v := 1) hx hb dX5_passLineComment_47 (by decide) ?_
              refine lv_goto (tgt := 52) hx hb dX5_passLineComment_48 (by decide) ?_
              refine lv_istore_n (lv' := [(1, .int 1), (3, .int (zk_here X)), (0, .ref (o 5)), (2, .int (nI (65536 - k)))]) hx hb dX5_passLineComment_52 rfl hl (by decide) rfl (fun ls hl => ?_)
              refine lv_iinc (v := nI (65536 - kk)) (lv' := [(2, .int (nI (65536 - kk))), (1, .int 1), (3, .int (zk_here X)), (0, .ref (o 5))]) hx hb dX5_passLineComment_53 hl (k := 3) rfl ((nI_1 _).trans (congrArg nI (by omega))) (by decide) rfl (fun ls hl => ?_)
              refine lv_goto (tgt := 7) hx hb dX5_passLineComment_56 (by decide) ?_
              exact ih kk N2 1 (by omega) (by rw [hres]; unfold zc_lineG; rw [if_neg c_14, zc_line_s hk1, if_neg (fun h9 => by rcases h9 with h9 | h9; exact c_28 h9; exact c_33 h9), ← hr2, if_neg c_44, ← hN2, if_neg (by decide)]) (by omega) d1 cells slots H locs ls hS hP hD hc hI (lv_sub hl [3, 1, 0] rfl)
set_option maxHeartbeats 4000000 in
set_option maxRecDepth 100000 in
theorem kX5_passLineComment (l : Launch) (g : za_G) (E : za_E) (o d : Nat → Nat) (N : zc_N)  (hI : zc_I N) : zb_Cv l g E yX5_passLineComment cX5_passLineComment 4 6 (zc_rc N) (zc_rs N) (zc_L (zc_lineC N) - zc_L N) (2 * (zc_L (zc_lineC N) - zc_L N)) [.ref (o 5)] (zc_ws g o d N) (fun u : zc_N × (Nat → Nat) => u.1 = zc_lineC N) (fun u => zc_ws g o u.2 u.1) := by
  refine zb_begin (by decide) (Nat.le_of_ble_eq_true rfl) RX5 rfl ?_
  intro p e s m args below meth co A ls Q H locs C hQ hr hlocks hnm hS hP hD hl
  obtain ⟨hx, hb, hml, hown, hts, hK, hA, hE⟩ := id C
  have hl : lv_has ls 4 [(0, .ref (o 5))] := hl
  have hc : zb_c N N 0 0 := zb_c.rf
  revert hc
  refine (fun (z9 : ∀ cells slots : Nat, zb_c N N cells slots → W p l e (za_R 6 (zc_rc N) (zc_rs N)) s m args below meth co H locs cells slots Q (F0 m 0 ls [])) hc => z9 0 0 hc) (fun cells slots hc => ?_)
  refine lv_aload_n hx hb dX5_passLineComment_0 rfl (lv_at hl 0 rfl) ?_
  refine zc_calli C hP hD hS hc (zl_endLine) (zb_runV C hP hD hS [0, 1, 2, 3, 4, 5, 6, 7, 8, 9, 10, 11, 12, 13, 14, 15, 16] rfl (by decide) rfl (kX5_endLine l g E o d N  hI ) w_357 mX5_endLine 5 rfl rfl rfl rfl hl.1 rfl (Nat.le_of_ble_eq_true rfl) dX5_passLineComment_1 ⟨Nat.le_of_ble_eq_true rfl, Nat.le_of_ble_eq_true rfl⟩ (hc.room (zc_L_le hI))) (fun r1 N1 d1 H locs cells slots hr1 hN1 hc hP hD hS => ?_)
  have hI : zc_I N1 := by rw [hN1]; exact zi_endLine hI
  refine lv_istore_n (lv' := [(1, .int r1), (0, .ref (o 5))]) hx hb dX5_passLineComment_4 rfl hl (by decide) rfl (fun ls hl => ?_)
  refine lv_iconst (v := 0) hx hb dX5_passLineComment_5 (by decide) ?_
  refine lv_istore_n (lv' := [(2, .int 0), (1, .int r1), (0, .ref (o 5))]) hx hb dX5_passLineComment_6 rfl hl (by decide) rfl (fun ls hl => ?_)
  exact kL_line l g E o d N C hQ hr hlocks _ 65536 N1 _ (Nat.le_refl _) (by rw [hN1, hr1]; rfl) (Nat.lt_succ_self _) d1 cells slots H locs ls hS hP hD hc hI (lv_sub hl [2, 1, 0] rfl)
set_option maxHeartbeats 4000000 in
set_option maxRecDepth 100000 in
theorem kL_long (l : Launch) (g : za_G) (E : za_E) (o d : Nat → Nat) (N : zc_N)   {p : Program} {e : Env} {s : State} {m : MethodId} {args : Array Value} {below : List Frame} {meth : Method} {co : Code} {A : Nat → Prop} {Q : State → Prop} (C : za_H p s m args co cX5_passLongComment 3 RX5 g E A) (hQ : Q = MQ below (za_qv g (fun u : zc_N × (Nat → Nat) => u.1 = zc_longC N) (fun u => zc_ws g o u.2 u.1) A) args s (zc_L (zc_longC N) - zc_L N) (2 * (zc_L (zc_longC N) - zc_L N)) A) (hr : meth.sig.returnType = none) (hlocks : meth.locks = false)  : ∀ (n_ : Nat) (k : Nat) (X : zc_N), (k ≤ 65536) → (zc_longC N = zc_long k X) → k < n_ → ∀ (d1 : Nat → Nat) (cells slots : Nat) (H : Heap) (locs : List Loc) (ls : Array Slot), va_S A s.heap H locs → va_P g.1 vwCl (zc_ws g o d1 X) H → va_D A (zc_ws g o d1 X) → zb_c N X cells slots → zc_I X → lv_has ls 3 [(0, .ref (o 5)), (1, .int (nI (65536 - k)))] → W p l e (za_R 6 (zc_rc N) (zc_rs N)) s m args below meth co H locs cells slots Q (F0 m 16 ls []) := by
  obtain ⟨hx, hb, hml, hown, hts, hK, hA, hE⟩ := id C
  intro n_
  induction n_ with
  | zero => intro k X hk6 hres hm; exact absurd hm (Nat.not_lt_zero _)
  | succ n_ ih =>
    intro k X hk6 hres hm d1 cells slots H locs ls hS hP hD hc hI hl
    refine lv_iload_n hx hb dX5_passLongComment_16 rfl (lv_at hl 1 rfl) ?_
    refine lv_ldc (v := 65536) hx hb hown (hts _ w_406) dX5_passLongComment_17 ?_
    refine za_icmp_ge (tgt := 94) hx hb dX5_passLongComment_19 (by decide) (fun c_19 => ?_) (fun c_19 => ?_)
    · have hk0 : k = 0 := by
        cases k with
        | zero => rfl
        | succ kk => exact absurd (nI_lt (show 65536 - (kk + 1) < 65536 by omega) (by decide)) c_19
      exact zc_rvg hQ hx hb hr hlocks hK hP hD hS hc (by rw [hres, hk0]; rfl) dX5_passLongComment_94
    · obtain ⟨kk, hk1⟩ : ∃ kk, k = kk + 1 := by
        cases k with
        | zero => exact absurd c_19 (by decide)
        | succ kk => exact ⟨kk, rfl⟩
      refine lv_aload_n hx hb dX5_passLongComment_22 rfl (lv_at hl 0 rfl) ?_
      refine va_get (ci := 5) (v := .ref (o 6)) hx hb hts iX5 hown hK hP 5 rfl rfl 0 (by decide) (hts _ w_221) (fun _ h9 => h9) rfl dX5_passLongComment_23 ?_
      refine za_ci (wc := zc_ws g o d1 X) (wr := []) C hP hD hS [0, 1, 2, 3, 4, 5, 6, 7, 8, 9, 10, 11, 12, 13, 14, 15, 16] [] rfl rfl (by decide) (by decide) (za_runV C hP hD hS [0, 1, 2, 3, 4, 5, 6, 7, 8, 9, 10, 11, 12, 13, 14, 15, 16] rfl (by decide) rfl (kX7_here l g E o d1 X  hI ) w_345 mX7_here 6 rfl rfl rfl rfl hl.1 rfl (Nat.le_of_ble_eq_true rfl) dX5_passLongComment_26 ⟨Nat.le_of_ble_eq_true rfl, Nat.le_of_ble_eq_true rfl⟩ (hc.le0 (zc_L_le hI))) (fun r1 _ H locs hr1 hP hD hS => ?_)
      subst hr1
      have hP : va_P g.1 vwCl (zc_ws g o d1 X) H := hP
      have hD : va_D A (zc_ws g o d1 X) := hD
      refine lv_istore_n (lv' := [(2, .int (zk_here X)), (0, .ref (o 5)), (1, .int (nI (65536 - k)))]) hx hb dX5_passLongComment_29 rfl hl (by decide) rfl (fun ls hl => ?_)
      refine lv_iload_n hx hb dX5_passLongComment_30 rfl (lv_at hl 0 rfl) ?_
      refine lv_bipush (v := 42) hx hb dX5_passLongComment_31 (by decide) ?_
      refine lv_icmp_ne (tgt := 63) hx hb dX5_passLongComment_33 (by decide) (fun c_33 => ?_) (fun c_33 => ?_)
      · refine lv_iload_n hx hb dX5_passLongComment_63 rfl (lv_at hl 0 rfl) ?_
        refine lv_bipush (v := 10) hx hb dX5_passLongComment_64 (by decide) ?_
        refine lv_icmp_ne (tgt := 76) hx hb dX5_passLongComment_66 (by decide) (fun c_66 => ?_) (fun c_66 => ?_)
        · refine lv_aload_n hx hb dX5_passLongComment_76 rfl (lv_at hl 1 rfl) ?_
          refine va_get (ci := 5) (v := .ref (o 6)) hx hb hts iX5 hown hK hP 5 rfl rfl 0 (by decide) (hts _ w_221) (fun _ h9 => h9) rfl dX5_passLongComment_77 ?_
          refine za_ci (wc := zc_ws g o d1 X) (wr := []) C hP hD hS [0, 1, 2, 3, 4, 5, 6, 7, 8, 9, 10, 11, 12, 13, 14, 15, 16] [] rfl rfl (by decide) (by decide) (za_runV C hP hD hS [0, 1, 2, 3, 4, 5, 6, 7, 8, 9, 10, 11, 12, 13, 14, 15, 16] rfl (by decide) rfl (kX7_character l g E o d1 X  hI ) w_407 mX7_character 6 rfl rfl rfl rfl hl.1 rfl (Nat.le_of_ble_eq_true rfl) dX5_passLongComment_80 ⟨Nat.le_of_ble_eq_true rfl, Nat.le_of_ble_eq_true rfl⟩ (hc.le0 (zc_L_le hI))) (fun r2 N2 H locs hN2 hP hD hS => ?_)
          obtain ⟨hr2, hN2⟩ := hN2
          have hI : zc_I N2 := by rw [hN2]; exact zi_char hI
          have hc : zb_c N N2 cells slots := by rw [hN2]; exact hc.eq zL_char
          have hP : va_P g.1 vwCl (zc_ws g o d1 N2) H := hP
          have hD : va_D A (zc_ws g o d1 N2) := hD
          refine lv_iconst (v := (-1)) hx hb dX5_passLongComment_83 (by decide) ?_
          refine lv_icmp_ne (tgt := 88) hx hb dX5_passLongComment_84 (by decide) (fun c_84 => ?_) (fun c_84 => ?_)
          · refine lv_iinc (v := nI (65536 - kk)) (lv' := [(1, .int (nI (65536 - kk))), (2, .int (zk_here X)), (0, .ref (o 5))]) hx hb dX5_passLongComment_88 hl (k := 2) rfl ((nI_1 _).trans (congrArg nI (by omega))) (by decide) rfl (fun ls hl => ?_)
            refine lv_goto (tgt := 16) hx hb dX5_passLongComment_91 (by decide) ?_
            exact ih kk N2 (by omega) (by rw [hres, zc_long_s hk1, if_neg (fun h9 => c_33 h9.1), if_neg (fun h9 => c_66 h9.1), show zc_lf X = X from (by unfold zc_lf; rw [if_neg c_66]), ← hr2, if_neg c_84, ← hN2]) (by omega) d1 cells slots H locs ls hS hP hD hc hI (lv_sub hl [2, 0] rfl)
          · exact zc_rvg hQ hx hb hr hlocks hK hP hD hS hc (by rw [hres, zc_long_s hk1, if_neg (fun h9 => c_33 h9.1), if_neg (fun h9 => c_66 h9.1), show zc_lf X = X from (by unfold zc_lf; rw [if_neg c_66]), ← hr2, if_pos c_84]; exact hN2) dX5_passLongComment_87
        · refine lv_aload_n hx hb dX5_passLongComment_69 rfl (lv_at hl 1 rfl) ?_
          refine zc_calli C hP hD hS hc (zl_endLine) (zb_runV C hP hD hS [0, 1, 2, 3, 4, 5, 6, 7, 8, 9, 10, 11, 12, 13, 14, 15, 16] rfl (by decide) rfl (kX5_endLine l g E o d1 X  hI ) w_357 mX5_endLine 5 rfl rfl rfl rfl hl.1 rfl (Nat.le_of_ble_eq_true rfl) dX5_passLongComment_70 ⟨Nat.le_of_ble_eq_true rfl, Nat.le_of_ble_eq_true rfl⟩ (hc.room (zc_L_le hI))) (fun r3 N3 d3 H locs cells slots hr3 hN3 hc hP hD hS => ?_)
          have hI : zc_I N3 := by rw [hN3]; exact zi_endLine hI
          refine lv_if_eq (tgt := 87) hx hb dX5_passLongComment_73 (by decide) (fun c_73 => ?_) (fun c_73 => ?_)
          · exact zc_rvg hQ hx hb hr hlocks hK hP hD hS hc (by rw [hres, zc_long_s hk1, if_neg (fun h9 => c_33 h9.1), if_pos ⟨c_66, by rw [← hr3]; exact c_73⟩]; exact hN3) dX5_passLongComment_87
          · refine lv_aload_n hx hb dX5_passLongComment_76 rfl (lv_at hl 1 rfl) ?_
            refine va_get (ci := 5) (v := .ref (o 6)) hx hb hts iX5 hown hK hP 5 rfl rfl 0 (by decide) (hts _ w_221) (fun _ h9 => h9) rfl dX5_passLongComment_77 ?_
            refine za_ci (wc := zc_ws g o d3 N3) (wr := []) C hP hD hS [0, 1, 2, 3, 4, 5, 6, 7, 8, 9, 10, 11, 12, 13, 14, 15, 16] [] rfl rfl (by decide) (by decide) (za_runV C hP hD hS [0, 1, 2, 3, 4, 5, 6, 7, 8, 9, 10, 11, 12, 13, 14, 15, 16] rfl (by decide) rfl (kX7_character l g E o d3 N3  hI ) w_407 mX7_character 6 rfl rfl rfl rfl hl.1 rfl (Nat.le_of_ble_eq_true rfl) dX5_passLongComment_80 ⟨Nat.le_of_ble_eq_true rfl, Nat.le_of_ble_eq_true rfl⟩ (hc.le0 (zc_L_le hI))) (fun r4 N4 H locs hN4 hP hD hS => ?_)
            obtain ⟨hr4, hN4⟩ := hN4
            have hI : zc_I N4 := by rw [hN4]; exact zi_char hI
            have hc : zb_c N N4 cells slots := by rw [hN4]; exact hc.eq zL_char
            have hP : va_P g.1 vwCl (zc_ws g o d3 N4) H := hP
            have hD : va_D A (zc_ws g o d3 N4) := hD
            refine lv_iconst (v := (-1)) hx hb dX5_passLongComment_83 (by decide) ?_
            refine lv_icmp_ne (tgt := 88) hx hb dX5_passLongComment_84 (by decide) (fun c_84 => ?_) (fun c_84 => ?_)
            · refine lv_iinc (v := nI (65536 - kk)) (lv' := [(1, .int (nI (65536 - kk))), (2, .int (zk_here X)), (0, .ref (o 5))]) hx hb dX5_passLongComment_88 hl (k := 2) rfl ((nI_1 _).trans (congrArg nI (by omega))) (by decide) rfl (fun ls hl => ?_)
              refine lv_goto (tgt := 16) hx hb dX5_passLongComment_91 (by decide) ?_
              exact ih kk N4 (by omega) (by rw [hres, zc_long_s hk1, if_neg (fun h9 => c_33 h9.1), if_neg (fun h9 => c_73 (by rw [hr3]; exact h9.2)), show zc_lf X = N3 from (by unfold zc_lf; rw [if_pos c_66]; exact hN3.symm), ← hr4, if_neg c_84, ← hN4]) (by omega) d3 cells slots H locs ls hS hP hD hc hI (lv_sub hl [2, 0] rfl)
            · exact zc_rvg hQ hx hb hr hlocks hK hP hD hS hc (by rw [hres, zc_long_s hk1, if_neg (fun h9 => c_33 h9.1), if_neg (fun h9 => c_73 (by rw [hr3]; exact h9.2)), show zc_lf X = N3 from (by unfold zc_lf; rw [if_pos c_66]; exact hN3.symm), ← hr4, if_pos c_84]; exact hN4) dX5_passLongComment_87
      · refine lv_aload_n hx hb dX5_passLongComment_36 rfl (lv_at hl 1 rfl) ?_
        refine va_get (ci := 5) (v := .ref (o 6)) hx hb hts iX5 hown hK hP 5 rfl rfl 0 (by decide) (hts _ w_221) (fun _ h9 => h9) rfl dX5_passLongComment_37 ?_
        refine za_ci (wc := zc_ws g o d1 X) (wr := []) C hP hD hS [0, 1, 2, 3, 4, 5, 6, 7, 8, 9, 10, 11, 12, 13, 14, 15, 16] [] rfl rfl (by decide) (by decide) (za_runV C hP hD hS [0, 1, 2, 3, 4, 5, 6, 7, 8, 9, 10, 11, 12, 13, 14, 15, 16] rfl (by decide) rfl (kX7_next l g E o d1 X  hI ) w_398 mX7_next 6 rfl rfl rfl rfl hl.1 rfl (Nat.le_of_ble_eq_true rfl) dX5_passLongComment_40 ⟨Nat.le_of_ble_eq_true rfl, Nat.le_of_ble_eq_true rfl⟩ (hc.le0 (zc_L_le hI))) (fun r5 _ H locs hr5 hP hD hS => ?_)
        subst hr5
        have hP : va_P g.1 vwCl (zc_ws g o d1 X) H := hP
        have hD : va_D A (zc_ws g o d1 X) := hD
        refine lv_bipush (v := 47) hx hb dX5_passLongComment_43 (by decide) ?_
        refine lv_icmp_ne (tgt := 63) hx hb dX5_passLongComment_45 (by decide) (fun c_45 => ?_) (fun c_45 => ?_)
        · refine lv_iload_n hx hb dX5_passLongComment_63 rfl (lv_at hl 0 rfl) ?_
          refine lv_bipush (v := 10) hx hb dX5_passLongComment_64 (by decide) ?_
          refine lv_icmp_ne (tgt := 76) hx hb dX5_passLongComment_66 (by decide) (fun c_66 => ?_) (fun c_66 => ?_)
          · refine lv_aload_n hx hb dX5_passLongComment_76 rfl (lv_at hl 1 rfl) ?_
            refine va_get (ci := 5) (v := .ref (o 6)) hx hb hts iX5 hown hK hP 5 rfl rfl 0 (by decide) (hts _ w_221) (fun _ h9 => h9) rfl dX5_passLongComment_77 ?_
            refine za_ci (wc := zc_ws g o d1 X) (wr := []) C hP hD hS [0, 1, 2, 3, 4, 5, 6, 7, 8, 9, 10, 11, 12, 13, 14, 15, 16] [] rfl rfl (by decide) (by decide) (za_runV C hP hD hS [0, 1, 2, 3, 4, 5, 6, 7, 8, 9, 10, 11, 12, 13, 14, 15, 16] rfl (by decide) rfl (kX7_character l g E o d1 X  hI ) w_407 mX7_character 6 rfl rfl rfl rfl hl.1 rfl (Nat.le_of_ble_eq_true rfl) dX5_passLongComment_80 ⟨Nat.le_of_ble_eq_true rfl, Nat.le_of_ble_eq_true rfl⟩ (hc.le0 (zc_L_le hI))) (fun r6 N6 H locs hN6 hP hD hS => ?_)
            obtain ⟨hr6, hN6⟩ := hN6
            have hI : zc_I N6 := by rw [hN6]; exact zi_char hI
            have hc : zb_c N N6 cells slots := by rw [hN6]; exact hc.eq zL_char
            have hP : va_P g.1 vwCl (zc_ws g o d1 N6) H := hP
            have hD : va_D A (zc_ws g o d1 N6) := hD
            refine lv_iconst (v := (-1)) hx hb dX5_passLongComment_83 (by decide) ?_
            refine lv_icmp_ne (tgt := 88) hx hb dX5_passLongComment_84 (by decide) (fun c_84 => ?_) (fun c_84 => ?_)
            · refine lv_iinc (v := nI (65536 - kk)) (lv' := [(1, .int (nI (65536 - kk))), (2, .int (zk_here X)), (0, .ref (o 5))]) hx hb dX5_passLongComment_88 hl (k := 2) rfl ((nI_1 _).trans (congrArg nI (by omega))) (by decide) rfl (fun ls hl => ?_)
              refine lv_goto (tgt := 16) hx hb dX5_passLongComment_91 (by decide) ?_
              exact ih kk N6 (by omega) (by rw [hres, zc_long_s hk1, if_neg (fun h9 => c_45 h9.2), if_neg (fun h9 => c_66 h9.1), show zc_lf X = X from (by unfold zc_lf; rw [if_neg c_66]), ← hr6, if_neg c_84, ← hN6]) (by omega) d1 cells slots H locs ls hS hP hD hc hI (lv_sub hl [2, 0] rfl)
            · exact zc_rvg hQ hx hb hr hlocks hK hP hD hS hc (by rw [hres, zc_long_s hk1, if_neg (fun h9 => c_45 h9.2), if_neg (fun h9 => c_66 h9.1), show zc_lf X = X from (by unfold zc_lf; rw [if_neg c_66]), ← hr6, if_pos c_84]; exact hN6) dX5_passLongComment_87
          · refine lv_aload_n hx hb dX5_passLongComment_69 rfl (lv_at hl 1 rfl) ?_
            refine zc_calli C hP hD hS hc (zl_endLine) (zb_runV C hP hD hS [0, 1, 2, 3, 4, 5, 6, 7, 8, 9, 10, 11, 12, 13, 14, 15, 16] rfl (by decide) rfl (kX5_endLine l g E o d1 X  hI ) w_357 mX5_endLine 5 rfl rfl rfl rfl hl.1 rfl (Nat.le_of_ble_eq_true rfl) dX5_passLongComment_70 ⟨Nat.le_of_ble_eq_true rfl, Nat.le_of_ble_eq_true rfl⟩ (hc.room (zc_L_le hI))) (fun r7 N7 d7 H locs cells slots hr7 hN7 hc hP hD hS => ?_)
            have hI : zc_I N7 := by rw [hN7]; exact zi_endLine hI
            refine lv_if_eq (tgt := 87) hx hb dX5_passLongComment_73 (by decide) (fun c_73 => ?_) (fun c_73 => ?_)
            · exact zc_rvg hQ hx hb hr hlocks hK hP hD hS hc (by rw [hres, zc_long_s hk1, if_neg (fun h9 => c_45 h9.2), if_pos ⟨c_66, by rw [← hr7]; exact c_73⟩]; exact hN7) dX5_passLongComment_87
            · refine lv_aload_n hx hb dX5_passLongComment_76 rfl (lv_at hl 1 rfl) ?_
              refine va_get (ci := 5) (v := .ref (o 6)) hx hb hts iX5 hown hK hP 5 rfl rfl 0 (by decide) (hts _ w_221) (fun _ h9 => h9) rfl dX5_passLongComment_77 ?_
              refine za_ci (wc := zc_ws g o d7 N7) (wr := []) C hP hD hS [0, 1, 2, 3, 4, 5, 6, 7, 8, 9, 10, 11, 12, 13, 14, 15, 16] [] rfl rfl (by decide) (by decide) (za_runV C hP hD hS [0, 1, 2, 3, 4, 5, 6, 7, 8, 9, 10, 11, 12, 13, 14, 15, 16] rfl (by decide) rfl (kX7_character l g E o d7 N7  hI ) w_407 mX7_character 6 rfl rfl rfl rfl hl.1 rfl (Nat.le_of_ble_eq_true rfl) dX5_passLongComment_80 ⟨Nat.le_of_ble_eq_true rfl, Nat.le_of_ble_eq_true rfl⟩ (hc.le0 (zc_L_le hI))) (fun r8 N8 H locs hN8 hP hD hS => ?_)
              obtain ⟨hr8, hN8⟩ := hN8
              have hI : zc_I N8 := by rw [hN8]; exact zi_char hI
              have hc : zb_c N N8 cells slots := by rw [hN8]; exact hc.eq zL_char
              have hP : va_P g.1 vwCl (zc_ws g o d7 N8) H := hP
              have hD : va_D A (zc_ws g o d7 N8) := hD
              refine lv_iconst (v := (-1)) hx hb dX5_passLongComment_83 (by decide) ?_
              refine lv_icmp_ne (tgt := 88) hx hb dX5_passLongComment_84 (by decide) (fun c_84 => ?_) (fun c_84 => ?_)
              · refine lv_iinc (v := nI (65536 - kk)) (lv' := [(1, .int (nI (65536 - kk))), (2, .int (zk_here X)), (0, .ref (o 5))]) hx hb dX5_passLongComment_88 hl (k := 2) rfl ((nI_1 _).trans (congrArg nI (by omega))) (by decide) rfl (fun ls hl => ?_)
                refine lv_goto (tgt := 16) hx hb dX5_passLongComment_91 (by decide) ?_
                exact ih kk N8 (by omega) (by rw [hres, zc_long_s hk1, if_neg (fun h9 => c_45 h9.2), if_neg (fun h9 => c_73 (by rw [hr7]; exact h9.2)), show zc_lf X = N7 from (by unfold zc_lf; rw [if_pos c_66]; exact hN7.symm), ← hr8, if_neg c_84, ← hN8]) (by omega) d7 cells slots H locs ls hS hP hD hc hI (lv_sub hl [2, 0] rfl)
              · exact zc_rvg hQ hx hb hr hlocks hK hP hD hS hc (by rw [hres, zc_long_s hk1, if_neg (fun h9 => c_45 h9.2), if_neg (fun h9 => c_73 (by rw [hr7]; exact h9.2)), show zc_lf X = N7 from (by unfold zc_lf; rw [if_pos c_66]; exact hN7.symm), ← hr8, if_pos c_84]; exact hN8) dX5_passLongComment_87
        · refine lv_aload_n hx hb dX5_passLongComment_48 rfl (lv_at hl 1 rfl) ?_
          refine va_get (ci := 5) (v := .ref (o 6)) hx hb hts iX5 hown hK hP 5 rfl rfl 0 (by decide) (hts _ w_221) (fun _ h9 => h9) rfl dX5_passLongComment_49 ?_
          refine za_cv (wc := zc_ws g o d1 X) (wr := []) C hP hD hS [0, 1, 2, 3, 4, 5, 6, 7, 8, 9, 10, 11, 12, 13, 14, 15, 16] [] rfl rfl (by decide) (by decide) (za_runV C hP hD hS [0, 1, 2, 3, 4, 5, 6, 7, 8, 9, 10, 11, 12, 13, 14, 15, 16] rfl (by decide) rfl (kX7_step l g E o d1 X  hI ) w_393 mX7_step 6 rfl rfl rfl rfl hl.1 rfl (Nat.le_of_ble_eq_true rfl) dX5_passLongComment_52 ⟨Nat.le_of_ble_eq_true rfl, Nat.le_of_ble_eq_true rfl⟩ (hc.le0 (zc_L_le hI))) (fun N9 H locs hN9 hP hD hS => ?_)
          have hI : zc_I N9 := by rw [hN9]; exact zi_step hI
          have hc : zb_c N N9 cells slots := by rw [hN9]; exact hc.eq zL_step
          have hP : va_P g.1 vwCl (zc_ws g o d1 N9) H := hP
          have hD : va_D A (zc_ws g o d1 N9) := hD
          refine lv_aload_n hx hb dX5_passLongComment_55 rfl (lv_at hl 1 rfl) ?_
          refine va_get (ci := 5) (v := .ref (o 6)) hx hb hts iX5 hown hK hP 5 rfl rfl 0 (by decide) (hts _ w_221) (fun _ h9 => h9) rfl dX5_passLongComment_56 ?_
          refine za_cv (wc := zc_ws g o d1 N9) (wr := []) C hP hD hS [0, 1, 2, 3, 4, 5, 6, 7, 8, 9, 10, 11, 12, 13, 14, 15, 16] [] rfl rfl (by decide) (by decide) (za_runV C hP hD hS [0, 1, 2, 3, 4, 5, 6, 7, 8, 9, 10, 11, 12, 13, 14, 15, 16] rfl (by decide) rfl (kX7_step l g E o d1 N9  hI ) w_393 mX7_step 6 rfl rfl rfl rfl hl.1 rfl (Nat.le_of_ble_eq_true rfl) dX5_passLongComment_59 ⟨Nat.le_of_ble_eq_true rfl, Nat.le_of_ble_eq_true rfl⟩ (hc.le0 (zc_L_le hI))) (fun N10 H locs hN10 hP hD hS => ?_)
          have hI : zc_I N10 := by rw [hN10]; exact zi_step hI
          have hc : zb_c N N10 cells slots := by rw [hN10]; exact hc.eq zL_step
          have hP : va_P g.1 vwCl (zc_ws g o d1 N10) H := hP
          have hD : va_D A (zc_ws g o d1 N10) := hD
          exact zc_rvg hQ hx hb hr hlocks hK hP hD hS hc (by rw [hres, zc_long_s hk1, if_pos ⟨c_33, c_45⟩, ← hN9]; exact hN10) dX5_passLongComment_62
set_option maxHeartbeats 4000000 in
set_option maxRecDepth 100000 in
theorem kX5_passLongComment (l : Launch) (g : za_G) (E : za_E) (o d : Nat → Nat) (N : zc_N)  (hI : zc_I N) : zb_Cv l g E yX5_passLongComment cX5_passLongComment 3 6 (zc_rc N) (zc_rs N) (zc_L (zc_longC N) - zc_L N) (2 * (zc_L (zc_longC N) - zc_L N)) [.ref (o 5)] (zc_ws g o d N) (fun u : zc_N × (Nat → Nat) => u.1 = zc_longC N) (fun u => zc_ws g o u.2 u.1) := by
  refine zb_begin (by decide) (Nat.le_of_ble_eq_true rfl) RX5 rfl ?_
  intro p e s m args below meth co A ls Q H locs C hQ hr hlocks hnm hS hP hD hl
  obtain ⟨hx, hb, hml, hown, hts, hK, hA, hE⟩ := id C
  have hl : lv_has ls 3 [(0, .ref (o 5))] := hl
  have hc : zb_c N N 0 0 := zb_c.rf
  revert hc
  refine (fun (z9 : ∀ cells slots : Nat, zb_c N N cells slots → W p l e (za_R 6 (zc_rc N) (zc_rs N)) s m args below meth co H locs cells slots Q (F0 m 0 ls [])) hc => z9 0 0 hc) (fun cells slots hc => ?_)
  refine lv_aload_n hx hb dX5_passLongComment_0 rfl (lv_at hl 0 rfl) ?_
  refine va_get (ci := 5) (v := .ref (o 6)) hx hb hts iX5 hown hK hP 5 rfl rfl 0 (by decide) (hts _ w_221) (fun _ h9 => h9) rfl dX5_passLongComment_1 ?_
  refine za_cv (wc := zc_ws g o d N) (wr := []) C hP hD hS [0, 1, 2, 3, 4, 5, 6, 7, 8, 9, 10, 11, 12, 13, 14, 15, 16] [] rfl rfl (by decide) (by decide) (za_runV C hP hD hS [0, 1, 2, 3, 4, 5, 6, 7, 8, 9, 10, 11, 12, 13, 14, 15, 16] rfl (by decide) rfl (kX7_step l g E o d N  hI ) w_393 mX7_step 6 rfl rfl rfl rfl hl.1 rfl (Nat.le_of_ble_eq_true rfl) dX5_passLongComment_4 ⟨Nat.le_of_ble_eq_true rfl, Nat.le_of_ble_eq_true rfl⟩ (hc.le0 (zc_L_le hI))) (fun N1 H locs hN1 hP hD hS => ?_)
  have hI : zc_I N1 := by rw [hN1]; exact zi_step hI
  have hc : zb_c N N1 cells slots := by rw [hN1]; exact hc.eq zL_step
  have hP : va_P g.1 vwCl (zc_ws g o d N1) H := hP
  have hD : va_D A (zc_ws g o d N1) := hD
  refine lv_aload_n hx hb dX5_passLongComment_7 rfl (lv_at hl 0 rfl) ?_
  refine va_get (ci := 5) (v := .ref (o 6)) hx hb hts iX5 hown hK hP 5 rfl rfl 0 (by decide) (hts _ w_221) (fun _ h9 => h9) rfl dX5_passLongComment_8 ?_
  refine za_cv (wc := zc_ws g o d N1) (wr := []) C hP hD hS [0, 1, 2, 3, 4, 5, 6, 7, 8, 9, 10, 11, 12, 13, 14, 15, 16] [] rfl rfl (by decide) (by decide) (za_runV C hP hD hS [0, 1, 2, 3, 4, 5, 6, 7, 8, 9, 10, 11, 12, 13, 14, 15, 16] rfl (by decide) rfl (kX7_step l g E o d N1  hI ) w_393 mX7_step 6 rfl rfl rfl rfl hl.1 rfl (Nat.le_of_ble_eq_true rfl) dX5_passLongComment_11 ⟨Nat.le_of_ble_eq_true rfl, Nat.le_of_ble_eq_true rfl⟩ (hc.le0 (zc_L_le hI))) (fun N2 H locs hN2 hP hD hS => ?_)
  have hI : zc_I N2 := by rw [hN2]; exact zi_step hI
  have hc : zb_c N N2 cells slots := by rw [hN2]; exact hc.eq zL_step
  have hP : va_P g.1 vwCl (zc_ws g o d N2) H := hP
  have hD : va_D A (zc_ws g o d N2) := hD
  refine lv_iconst (v := 0) hx hb dX5_passLongComment_14 (by decide) ?_
  refine lv_istore_n (lv' := [(1, .int 0), (0, .ref (o 5))]) hx hb dX5_passLongComment_15 rfl hl (by decide) rfl (fun ls hl => ?_)
  exact kL_long l g E o d N C hQ hr hlocks _ 65536 N2 (Nat.le_refl _) (by rw [hN2, hN1]; rfl) (Nat.lt_succ_self _) d cells slots H locs ls hS hP hD hc hI (lv_sub hl [1, 0] rfl)
set_option maxHeartbeats 4000000 in
set_option maxRecDepth 100000 in
theorem kX5_passBetweenTokens (l : Launch) (g : za_G) (E : za_E) (o d : Nat → Nat) (N : zc_N)  (hI : zc_I N) : zb_Ci l g E yX5_passBetweenTokens cX5_passBetweenTokens 2 ((some .boolean)) 7 (zc_rc N) (zc_rs N) (zc_L (zc_pass N) - zc_L N) (2 * (zc_L (zc_pass N) - zc_L N)) [.ref (o 5)] (zc_ws g o d N) (fun r (u : zc_N × (Nat → Nat)) => r = zk_pass N ∧ u.1 = zc_pass N) (fun u => zc_ws g o u.2 u.1) := by
  refine zb_begin (by decide) (Nat.le_of_ble_eq_true rfl) RX5 rfl ?_
  intro p e s m args below meth co A ls Q H locs C hQ hr hlocks hnm hS hP hD hl
  obtain ⟨hx, hb, hml, hown, hts, hK, hA, hE⟩ := id C
  have hl : lv_has ls 2 [(0, .ref (o 5))] := hl
  have hc : zb_c N N 0 0 := zb_c.rf
  revert hc
  refine (fun (z9 : ∀ cells slots : Nat, zb_c N N cells slots → W p l e (za_R 7 (zc_rc N) (zc_rs N)) s m args below meth co H locs cells slots Q (F0 m 0 ls [])) hc => z9 0 0 hc) (fun cells slots hc => ?_)
  refine lv_aload_n hx hb dX5_passBetweenTokens_0 rfl (lv_at hl 0 rfl) ?_
  refine za_cv (wc := zc_ws g o d N) (wr := []) C hP hD hS [0, 1, 2, 3, 4, 5, 6, 7, 8, 9, 10, 11, 12, 13, 14, 15, 16] [] rfl rfl (by decide) (by decide) (za_runV C hP hD hS [0, 1, 2, 3, 4, 5, 6, 7, 8, 9, 10, 11, 12, 13, 14, 15, 16] rfl (by decide) rfl (kX5_markStart l g E o d N  hI ) w_353 mX5_markStart 5 rfl rfl rfl rfl hl.1 rfl (Nat.le_of_ble_eq_true rfl) dX5_passBetweenTokens_1 ⟨Nat.le_of_ble_eq_true rfl, Nat.le_of_ble_eq_true rfl⟩ (hc.le0 (zc_L_le hI))) (fun N1 H locs hN1 hP hD hS => ?_)
  have hI : zc_I N1 := by rw [hN1]; exact zi_mark hI
  have hc : zb_c N N1 cells slots := by rw [hN1]; exact hc.eq zL_mark
  have hP : va_P g.1 vwCl (zc_ws g o d N1) H := hP
  have hD : va_D A (zc_ws g o d N1) := hD
  have e10 : zk_here N1 = zk_here N := by rw [hN1]; rfl
  have e11 : zk_next N1 = zk_next N := by rw [hN1]; rfl
  refine lv_aload_n hx hb dX5_passBetweenTokens_4 rfl (lv_at hl 0 rfl) ?_
  refine va_get (ci := 5) (v := .ref (o 6)) hx hb hts iX5 hown hK hP 5 rfl rfl 0 (by decide) (hts _ w_221) (fun _ h9 => h9) rfl dX5_passBetweenTokens_5 ?_
  refine za_ci (wc := zc_ws g o d N1) (wr := []) C hP hD hS [0, 1, 2, 3, 4, 5, 6, 7, 8, 9, 10, 11, 12, 13, 14, 15, 16] [] rfl rfl (by decide) (by decide) (za_runV C hP hD hS [0, 1, 2, 3, 4, 5, 6, 7, 8, 9, 10, 11, 12, 13, 14, 15, 16] rfl (by decide) rfl (kX7_here l g E o d N1  hI ) w_345 mX7_here 6 rfl rfl rfl rfl hl.1 rfl (Nat.le_of_ble_eq_true rfl) dX5_passBetweenTokens_8 ⟨Nat.le_of_ble_eq_true rfl, Nat.le_of_ble_eq_true rfl⟩ (hc.le0 (zc_L_le hI))) (fun r2 _ H locs hr2 hP hD hS => ?_)
  subst hr2
  have hP : va_P g.1 vwCl (zc_ws g o d N1) H := hP
  have hD : va_D A (zc_ws g o d N1) := hD
  refine lv_istore_n (lv' := [(1, .int (zk_here N1)), (0, .ref (o 5))]) hx hb dX5_passBetweenTokens_11 rfl hl (by decide) rfl (fun ls hl => ?_)
  refine lv_iload_n hx hb dX5_passBetweenTokens_12 rfl (lv_at hl 0 rfl) ?_
  refine lv_bipush (v := 10) hx hb dX5_passBetweenTokens_13 (by decide) ?_
  refine lv_icmp_ne (tgt := 35) hx hb dX5_passBetweenTokens_15 (by decide) (fun c_15 => ?_) (fun c_15 => ?_)
  · refine lv_iload_n hx hb dX5_passBetweenTokens_35 rfl (lv_at hl 0 rfl) ?_
    refine lv_bipush (v := 32) hx hb dX5_passBetweenTokens_36 (by decide) ?_
    refine lv_icmp_eq (tgt := 53) hx hb dX5_passBetweenTokens_38 (by decide) (fun c_38 => ?_) (fun c_38 => ?_)
    · refine lv_aload_n hx hb dX5_passBetweenTokens_53 rfl (lv_at hl 1 rfl) ?_
      refine va_get (ci := 5) (v := .ref (o 6)) hx hb hts iX5 hown hK hP 5 rfl rfl 0 (by decide) (hts _ w_221) (fun _ h9 => h9) rfl dX5_passBetweenTokens_54 ?_
      refine za_cv (wc := zc_ws g o d N1) (wr := []) C hP hD hS [0, 1, 2, 3, 4, 5, 6, 7, 8, 9, 10, 11, 12, 13, 14, 15, 16] [] rfl rfl (by decide) (by decide) (za_runV C hP hD hS [0, 1, 2, 3, 4, 5, 6, 7, 8, 9, 10, 11, 12, 13, 14, 15, 16] rfl (by decide) rfl (kX7_step l g E o d N1  hI ) w_393 mX7_step 6 rfl rfl rfl rfl hl.1 rfl (Nat.le_of_ble_eq_true rfl) dX5_passBetweenTokens_57 ⟨Nat.le_of_ble_eq_true rfl, Nat.le_of_ble_eq_true rfl⟩ (hc.le0 (zc_L_le hI))) (fun N3 H locs hN3 hP hD hS => ?_)
      have hI : zc_I N3 := by rw [hN3]; exact zi_step hI
      have hc : zb_c N N3 cells slots := by rw [hN3]; exact hc.eq zL_step
      have hP : va_P g.1 vwCl (zc_ws g o d N3) H := hP
      have hD : va_D A (zc_ws g o d N3) := hD
      refine lv_goto (tgt := 115) hx hb dX5_passBetweenTokens_60 (by decide) ?_
      refine lv_iconst (v := 1) hx hb dX5_passBetweenTokens_115 (by decide) ?_
      exact zc_rig hQ hx hb hr hlocks hK hP hD hS hc rfl (by unfold zk_pass; rw [if_pos (Or.inr (Or.inl (Or.inl (e10 ▸ c_38))))]) (by unfold zc_pass; rw [if_neg (fun h9 => c_15 (e10.trans h9)), if_pos (Or.inl (e10 ▸ c_38)), ← hN1]; exact hN3) dX5_passBetweenTokens_116
    · refine lv_iload_n hx hb dX5_passBetweenTokens_41 rfl (lv_at hl 0 rfl) ?_
      refine lv_bipush (v := 9) hx hb dX5_passBetweenTokens_42 (by decide) ?_
      refine lv_icmp_eq (tgt := 53) hx hb dX5_passBetweenTokens_44 (by decide) (fun c_44 => ?_) (fun c_44 => ?_)
      · refine lv_aload_n hx hb dX5_passBetweenTokens_53 rfl (lv_at hl 1 rfl) ?_
        refine va_get (ci := 5) (v := .ref (o 6)) hx hb hts iX5 hown hK hP 5 rfl rfl 0 (by decide) (hts _ w_221) (fun _ h9 => h9) rfl dX5_passBetweenTokens_54 ?_
        refine za_cv (wc := zc_ws g o d N1) (wr := []) C hP hD hS [0, 1, 2, 3, 4, 5, 6, 7, 8, 9, 10, 11, 12, 13, 14, 15, 16] [] rfl rfl (by decide) (by decide) (za_runV C hP hD hS [0, 1, 2, 3, 4, 5, 6, 7, 8, 9, 10, 11, 12, 13, 14, 15, 16] rfl (by decide) rfl (kX7_step l g E o d N1  hI ) w_393 mX7_step 6 rfl rfl rfl rfl hl.1 rfl (Nat.le_of_ble_eq_true rfl) dX5_passBetweenTokens_57 ⟨Nat.le_of_ble_eq_true rfl, Nat.le_of_ble_eq_true rfl⟩ (hc.le0 (zc_L_le hI))) (fun N4 H locs hN4 hP hD hS => ?_)
        have hI : zc_I N4 := by rw [hN4]; exact zi_step hI
        have hc : zb_c N N4 cells slots := by rw [hN4]; exact hc.eq zL_step
        have hP : va_P g.1 vwCl (zc_ws g o d N4) H := hP
        have hD : va_D A (zc_ws g o d N4) := hD
        refine lv_goto (tgt := 115) hx hb dX5_passBetweenTokens_60 (by decide) ?_
        refine lv_iconst (v := 1) hx hb dX5_passBetweenTokens_115 (by decide) ?_
        exact zc_rig hQ hx hb hr hlocks hK hP hD hS hc rfl (by unfold zk_pass; rw [if_pos (Or.inr (Or.inl (Or.inr (Or.inl (e10 ▸ c_44)))))]) (by unfold zc_pass; rw [if_neg (fun h9 => c_15 (e10.trans h9)), if_pos (Or.inr (Or.inl (e10 ▸ c_44))), ← hN1]; exact hN4) dX5_passBetweenTokens_116
      · refine lv_iload_n hx hb dX5_passBetweenTokens_47 rfl (lv_at hl 0 rfl) ?_
        refine lv_bipush (v := 13) hx hb dX5_passBetweenTokens_48 (by decide) ?_
        refine lv_icmp_ne (tgt := 63) hx hb dX5_passBetweenTokens_50 (by decide) (fun c_50 => ?_) (fun c_50 => ?_)
        · refine lv_iload_n hx hb dX5_passBetweenTokens_63 rfl (lv_at hl 0 rfl) ?_
          refine lv_bipush (v := 47) hx hb dX5_passBetweenTokens_64 (by decide) ?_
          refine lv_icmp_ne (tgt := 88) hx hb dX5_passBetweenTokens_66 (by decide) (fun c_66 => ?_) (fun c_66 => ?_)
          · refine lv_iload_n hx hb dX5_passBetweenTokens_88 rfl (lv_at hl 0 rfl) ?_
            refine lv_bipush (v := 47) hx hb dX5_passBetweenTokens_89 (by decide) ?_
            refine lv_icmp_ne (tgt := 113) hx hb dX5_passBetweenTokens_91 (by decide) (fun c_91 => ?_) (fun c_91 => ?_)
            · refine lv_iconst (v := 0) hx hb dX5_passBetweenTokens_113 (by decide) ?_
              exact zc_rig hQ hx hb hr hlocks hK hP hD hS hc rfl (by unfold zk_pass; rw [if_neg (fun h9 => by rcases h9 with h9 | (h9 | h9 | h9) | ⟨h9, h8⟩; exact c_15 (e10.trans h9); exact c_38 (e10.trans h9); exact c_44 (e10.trans h9); exact c_50 (e10.trans h9); exact c_66 (e10.trans h9))]) (by unfold zc_pass; rw [if_neg (fun h9 => c_15 (e10.trans h9)), if_neg (fun h9 => by rcases h9 with h9 | h9 | h9; exact c_38 (e10.trans h9); exact c_44 (e10.trans h9); exact c_50 (e10.trans h9)), if_neg (fun h9 => c_66 (e10.trans h9.1)), if_neg (fun h9 => c_66 (e10.trans h9.1))]; exact hN1) dX5_passBetweenTokens_114
            · exact absurd c_91 c_66
          · refine lv_aload_n hx hb dX5_passBetweenTokens_69 rfl (lv_at hl 1 rfl) ?_
            refine va_get (ci := 5) (v := .ref (o 6)) hx hb hts iX5 hown hK hP 5 rfl rfl 0 (by decide) (hts _ w_221) (fun _ h9 => h9) rfl dX5_passBetweenTokens_70 ?_
            refine za_ci (wc := zc_ws g o d N1) (wr := []) C hP hD hS [0, 1, 2, 3, 4, 5, 6, 7, 8, 9, 10, 11, 12, 13, 14, 15, 16] [] rfl rfl (by decide) (by decide) (za_runV C hP hD hS [0, 1, 2, 3, 4, 5, 6, 7, 8, 9, 10, 11, 12, 13, 14, 15, 16] rfl (by decide) rfl (kX7_next l g E o d N1  hI ) w_398 mX7_next 6 rfl rfl rfl rfl hl.1 rfl (Nat.le_of_ble_eq_true rfl) dX5_passBetweenTokens_73 ⟨Nat.le_of_ble_eq_true rfl, Nat.le_of_ble_eq_true rfl⟩ (hc.le0 (zc_L_le hI))) (fun r5 _ H locs hr5 hP hD hS => ?_)
            subst hr5
            have hP : va_P g.1 vwCl (zc_ws g o d N1) H := hP
            have hD : va_D A (zc_ws g o d N1) := hD
            refine lv_bipush (v := 47) hx hb dX5_passBetweenTokens_76 (by decide) ?_
            refine lv_icmp_ne (tgt := 88) hx hb dX5_passBetweenTokens_78 (by decide) (fun c_78 => ?_) (fun c_78 => ?_)
            · refine lv_iload_n hx hb dX5_passBetweenTokens_88 rfl (lv_at hl 0 rfl) ?_
              refine lv_bipush (v := 47) hx hb dX5_passBetweenTokens_89 (by decide) ?_
              refine lv_icmp_ne (tgt := 113) hx hb dX5_passBetweenTokens_91 (by decide) (fun c_91 => ?_) (fun c_91 => ?_)
              · exact absurd c_66 c_91
              · refine lv_aload_n hx hb dX5_passBetweenTokens_94 rfl (lv_at hl 1 rfl) ?_
                refine va_get (ci := 5) (v := .ref (o 6)) hx hb hts iX5 hown hK hP 5 rfl rfl 0 (by decide) (hts _ w_221) (fun _ h9 => h9) rfl dX5_passBetweenTokens_95 ?_
                refine za_ci (wc := zc_ws g o d N1) (wr := []) C hP hD hS [0, 1, 2, 3, 4, 5, 6, 7, 8, 9, 10, 11, 12, 13, 14, 15, 16] [] rfl rfl (by decide) (by decide) (za_runV C hP hD hS [0, 1, 2, 3, 4, 5, 6, 7, 8, 9, 10, 11, 12, 13, 14, 15, 16] rfl (by decide) rfl (kX7_next l g E o d N1  hI ) w_398 mX7_next 6 rfl rfl rfl rfl hl.1 rfl (Nat.le_of_ble_eq_true rfl) dX5_passBetweenTokens_98 ⟨Nat.le_of_ble_eq_true rfl, Nat.le_of_ble_eq_true rfl⟩ (hc.le0 (zc_L_le hI))) (fun r6 _ H locs hr6 hP hD hS => ?_)
                subst hr6
                have hP : va_P g.1 vwCl (zc_ws g o d N1) H := hP
                have hD : va_D A (zc_ws g o d N1) := hD
                refine lv_bipush (v := 42) hx hb dX5_passBetweenTokens_101 (by decide) ?_
                refine lv_icmp_ne (tgt := 113) hx hb dX5_passBetweenTokens_103 (by decide) (fun c_103 => ?_) (fun c_103 => ?_)
                · refine lv_iconst (v := 0) hx hb dX5_passBetweenTokens_113 (by decide) ?_
                  exact zc_rig hQ hx hb hr hlocks hK hP hD hS hc rfl (by unfold zk_pass; rw [if_neg (fun h9 => by rcases h9 with h9 | (h9 | h9 | h9) | ⟨h9, h8⟩; exact c_15 (e10.trans h9); exact c_38 (e10.trans h9); exact c_44 (e10.trans h9); exact c_50 (e10.trans h9); rcases h8 with h8 | h8; exact c_78 (e11.trans h8); exact c_103 (e11.trans h8))]) (by unfold zc_pass; rw [if_neg (fun h9 => c_15 (e10.trans h9)), if_neg (fun h9 => by rcases h9 with h9 | h9 | h9; exact c_38 (e10.trans h9); exact c_44 (e10.trans h9); exact c_50 (e10.trans h9)), if_neg (fun h9 => c_78 (e11.trans h9.2)), if_neg (fun h9 => c_103 (e11.trans h9.2))]; exact hN1) dX5_passBetweenTokens_114
                · refine lv_aload_n hx hb dX5_passBetweenTokens_106 rfl (lv_at hl 1 rfl) ?_
                  refine zc_callv C hP hD hS hc (zl_longC) (zb_runV C hP hD hS [0, 1, 2, 3, 4, 5, 6, 7, 8, 9, 10, 11, 12, 13, 14, 15, 16] rfl (by decide) rfl (kX5_passLongComment l g E o d N1  hI ) w_422 mX5_passLongComment 5 rfl rfl rfl rfl hl.1 rfl (Nat.le_of_ble_eq_true rfl) dX5_passBetweenTokens_107 ⟨Nat.le_of_ble_eq_true rfl, Nat.le_of_ble_eq_true rfl⟩ (hc.room (zc_L_le hI))) (fun N7 d7 H locs cells slots hN7 hc hP hD hS => ?_)
                  have hI : zc_I N7 := by rw [hN7]; exact zi_longC hI
                  refine lv_goto (tgt := 115) hx hb dX5_passBetweenTokens_110 (by decide) ?_
                  refine lv_iconst (v := 1) hx hb dX5_passBetweenTokens_115 (by decide) ?_
                  exact zc_rig hQ hx hb hr hlocks hK hP hD hS hc rfl (by unfold zk_pass; rw [if_pos (Or.inr (Or.inr ⟨e10 ▸ c_66, Or.inr (e11 ▸ c_103)⟩))]) (by unfold zc_pass; rw [if_neg (fun h9 => c_15 (e10.trans h9)), if_neg (fun h9 => by rcases h9 with h9 | h9 | h9; exact c_38 (e10.trans h9); exact c_44 (e10.trans h9); exact c_50 (e10.trans h9)), if_neg (fun h9 => c_78 (e11.trans h9.2)), if_pos ⟨e10 ▸ c_66, e11 ▸ c_103⟩, ← hN1]; exact hN7) dX5_passBetweenTokens_116
            · refine lv_aload_n hx hb dX5_passBetweenTokens_81 rfl (lv_at hl 1 rfl) ?_
              refine zc_callv C hP hD hS hc (zl_lineC) (zb_runV C hP hD hS [0, 1, 2, 3, 4, 5, 6, 7, 8, 9, 10, 11, 12, 13, 14, 15, 16] rfl (by decide) rfl (kX5_passLineComment l g E o d N1  hI ) w_402 mX5_passLineComment 5 rfl rfl rfl rfl hl.1 rfl (Nat.le_of_ble_eq_true rfl) dX5_passBetweenTokens_82 ⟨Nat.le_of_ble_eq_true rfl, Nat.le_of_ble_eq_true rfl⟩ (hc.room (zc_L_le hI))) (fun N8 d8 H locs cells slots hN8 hc hP hD hS => ?_)
              have hI : zc_I N8 := by rw [hN8]; exact zi_lineC hI
              refine lv_goto (tgt := 115) hx hb dX5_passBetweenTokens_85 (by decide) ?_
              refine lv_iconst (v := 1) hx hb dX5_passBetweenTokens_115 (by decide) ?_
              exact zc_rig hQ hx hb hr hlocks hK hP hD hS hc rfl (by unfold zk_pass; rw [if_pos (Or.inr (Or.inr ⟨e10 ▸ c_66, Or.inl (e11 ▸ c_78)⟩))]) (by unfold zc_pass; rw [if_neg (fun h9 => c_15 (e10.trans h9)), if_neg (fun h9 => by rcases h9 with h9 | h9 | h9; exact c_38 (e10.trans h9); exact c_44 (e10.trans h9); exact c_50 (e10.trans h9)), if_pos ⟨e10 ▸ c_66, e11 ▸ c_78⟩, ← hN1]; exact hN8) dX5_passBetweenTokens_116
        · refine lv_aload_n hx hb dX5_passBetweenTokens_53 rfl (lv_at hl 1 rfl) ?_
          refine va_get (ci := 5) (v := .ref (o 6)) hx hb hts iX5 hown hK hP 5 rfl rfl 0 (by decide) (hts _ w_221) (fun _ h9 => h9) rfl dX5_passBetweenTokens_54 ?_
          refine za_cv (wc := zc_ws g o d N1) (wr := []) C hP hD hS [0, 1, 2, 3, 4, 5, 6, 7, 8, 9, 10, 11, 12, 13, 14, 15, 16] [] rfl rfl (by decide) (by decide) (za_runV C hP hD hS [0, 1, 2, 3, 4, 5, 6, 7, 8, 9, 10, 11, 12, 13, 14, 15, 16] rfl (by decide) rfl (kX7_step l g E o d N1  hI ) w_393 mX7_step 6 rfl rfl rfl rfl hl.1 rfl (Nat.le_of_ble_eq_true rfl) dX5_passBetweenTokens_57 ⟨Nat.le_of_ble_eq_true rfl, Nat.le_of_ble_eq_true rfl⟩ (hc.le0 (zc_L_le hI))) (fun N9 H locs hN9 hP hD hS => ?_)
          have hI : zc_I N9 := by rw [hN9]; exact zi_step hI
          have hc : zb_c N N9 cells slots := by rw [hN9]; exact hc.eq zL_step
          have hP : va_P g.1 vwCl (zc_ws g o d N9) H := hP
          have hD : va_D A (zc_ws g o d N9) := hD
          refine lv_goto (tgt := 115) hx hb dX5_passBetweenTokens_60 (by decide) ?_
          refine lv_iconst (v := 1) hx hb dX5_passBetweenTokens_115 (by decide) ?_
          exact zc_rig hQ hx hb hr hlocks hK hP hD hS hc rfl (by unfold zk_pass; rw [if_pos (Or.inr (Or.inl (Or.inr (Or.inr (e10 ▸ c_50)))))]) (by unfold zc_pass; rw [if_neg (fun h9 => c_15 (e10.trans h9)), if_pos (Or.inr (Or.inr (e10 ▸ c_50))), ← hN1]; exact hN9) dX5_passBetweenTokens_116
  · refine lv_aload_n hx hb dX5_passBetweenTokens_18 rfl (lv_at hl 1 rfl) ?_
    refine zc_calli C hP hD hS hc (zl_endLine) (zb_runV C hP hD hS [0, 1, 2, 3, 4, 5, 6, 7, 8, 9, 10, 11, 12, 13, 14, 15, 16] rfl (by decide) rfl (kX5_endLine l g E o d N1  hI ) w_357 mX5_endLine 5 rfl rfl rfl rfl hl.1 rfl (Nat.le_of_ble_eq_true rfl) dX5_passBetweenTokens_19 ⟨Nat.le_of_ble_eq_true rfl, Nat.le_of_ble_eq_true rfl⟩ (hc.room (zc_L_le hI))) (fun r10 N10 d10 H locs cells slots hr10 hN10 hc hP hD hS => ?_)
    have hI : zc_I N10 := by rw [hN10]; exact zi_endLine hI
    refine lv_if_eq (tgt := 115) hx hb dX5_passBetweenTokens_22 (by decide) (fun c_22 => ?_) (fun c_22 => ?_)
    · refine lv_iconst (v := 1) hx hb dX5_passBetweenTokens_115 (by decide) ?_
      exact zc_rig hQ hx hb hr hlocks hK hP hD hS hc rfl (by unfold zk_pass; rw [if_pos (Or.inl (e10 ▸ c_15))]) (by unfold zc_pass; rw [if_pos (show zk_here N = 10 from e10 ▸ c_15), ← hN1]; unfold zc_newl; rw [if_pos (by rw [← hr10]; exact c_22)]; exact hN10) dX5_passBetweenTokens_116
    · refine lv_aload_n hx hb dX5_passBetweenTokens_25 rfl (lv_at hl 1 rfl) ?_
      refine va_get (ci := 5) (v := .ref (o 6)) hx hb hts iX5 hown hK hP 5 rfl rfl 0 (by decide) (hts _ w_221) (fun _ h9 => h9) rfl dX5_passBetweenTokens_26 ?_
      refine za_cv (wc := zc_ws g o d10 N10) (wr := []) C hP hD hS [0, 1, 2, 3, 4, 5, 6, 7, 8, 9, 10, 11, 12, 13, 14, 15, 16] [] rfl rfl (by decide) (by decide) (za_runV C hP hD hS [0, 1, 2, 3, 4, 5, 6, 7, 8, 9, 10, 11, 12, 13, 14, 15, 16] rfl (by decide) rfl (kX7_step l g E o d10 N10  hI ) w_393 mX7_step 6 rfl rfl rfl rfl hl.1 rfl (Nat.le_of_ble_eq_true rfl) dX5_passBetweenTokens_29 ⟨Nat.le_of_ble_eq_true rfl, Nat.le_of_ble_eq_true rfl⟩ (hc.le0 (zc_L_le hI))) (fun N11 H locs hN11 hP hD hS => ?_)
      have hI : zc_I N11 := by rw [hN11]; exact zi_step hI
      have hc : zb_c N N11 cells slots := by rw [hN11]; exact hc.eq zL_step
      have hP : va_P g.1 vwCl (zc_ws g o d10 N11) H := hP
      have hD : va_D A (zc_ws g o d10 N11) := hD
      refine lv_goto (tgt := 115) hx hb dX5_passBetweenTokens_32 (by decide) ?_
      refine lv_iconst (v := 1) hx hb dX5_passBetweenTokens_115 (by decide) ?_
      exact zc_rig hQ hx hb hr hlocks hK hP hD hS hc rfl (by unfold zk_pass; rw [if_pos (Or.inl (e10 ▸ c_15))]) (by unfold zc_pass; rw [if_pos (show zk_here N = 10 from e10 ▸ c_15), ← hN1]; unfold zc_newl; rw [if_neg (by rw [← hr10]; exact c_22), ← hN10]; exact hN11) dX5_passBetweenTokens_116
set_option maxHeartbeats 4000000 in
set_option maxRecDepth 100000 in
theorem kX5_finish (l : Launch) (g : za_G) (E : za_E) (o d : Nat → Nat) (N : zc_N)  (hI : zc_I N) : zb_Ci l g E yX5_finish cX5_finish 1 ((some .int)) 6 (zc_rc N) (zc_rs N) (zc_L (zc_finish N) - zc_L N) (2 * (zc_L (zc_finish N) - zc_L N)) [.ref (o 5)] (zc_ws g o d N) (fun r (u : zc_N × (Nat → Nat)) => r = zk_finish N ∧ u.1 = zc_finish N) (fun u => zc_ws g o u.2 u.1) := by
  refine zb_begin (by decide) (Nat.le_of_ble_eq_true rfl) RX5 rfl ?_
  intro p e s m args below meth co A ls Q H locs C hQ hr hlocks hnm hS hP hD hl
  obtain ⟨hx, hb, hml, hown, hts, hK, hA, hE⟩ := id C
  have hl : lv_has ls 1 [(0, .ref (o 5))] := hl
  have hc : zb_c N N 0 0 := zb_c.rf
  revert hc
  refine (fun (z9 : ∀ cells slots : Nat, zb_c N N cells slots → W p l e (za_R 6 (zc_rc N) (zc_rs N)) s m args below meth co H locs cells slots Q (F0 m 0 ls [])) hc => z9 0 0 hc) (fun cells slots hc => ?_)
  refine lv_aload_n hx hb dX5_finish_0 rfl (lv_at hl 0 rfl) ?_
  refine va_get (ci := 5) (v := .ref (o 6)) hx hb hts iX5 hown hK hP 5 rfl rfl 0 (by decide) (hts _ w_221) (fun _ h9 => h9) rfl dX5_finish_1 ?_
  refine va_get (ci := 6) (v := .int (N.1 65)) hx hb hts iX7 hown hK hP 6 rfl rfl 5 (by decide) (hts _ w_103) (fun _ h9 => h9) rfl dX5_finish_4 ?_
  refine lv_if_ne (tgt := 19) hx hb dX5_finish_7 (by decide) (fun c_7 => ?_) (fun c_7 => ?_)
  · refine lv_aload_n hx hb dX5_finish_19 rfl (lv_at hl 0 rfl) ?_
    refine va_get (ci := 5) (v := .ref (o 6)) hx hb hts iX5 hown hK hP 5 rfl rfl 0 (by decide) (hts _ w_221) (fun _ h9 => h9) rfl dX5_finish_20 ?_
    refine va_get (ci := 6) (v := .int (N.1 65)) hx hb hts iX7 hown hK hP 6 rfl rfl 5 (by decide) (hts _ w_103) (fun _ h9 => h9) rfl dX5_finish_23 ?_
    refine lv_if_eq (tgt := 46) hx hb dX5_finish_26 (by decide) (fun c_26 => ?_) (fun c_26 => ?_)
    · exact absurd c_26 c_7
    · refine lv_aload_n hx hb dX5_finish_29 rfl (lv_at hl 0 rfl) ?_
      refine va_get (ci := 5) (v := .ref (o 7)) hx hb hts iX5 hown hK hP 5 rfl rfl 1 (by decide) (hts _ w_222) (fun _ h9 => h9) rfl dX5_finish_30 ?_
      refine za_cv (wc := zc_ws g o d N) (wr := []) C hP hD hS [0, 1, 2, 3, 4, 5, 6, 7, 8, 9, 10, 11, 12, 13, 14, 15, 16] [] rfl rfl (by decide) (by decide) (za_runV C hP hD hS [0, 1, 2, 3, 4, 5, 6, 7, 8, 9, 10, 11, 12, 13, 14, 15, 16] rfl (by decide) rfl (kX8_clear l g E o d N  ) w_328 mX8_clear 7 rfl rfl rfl rfl hl.1 rfl (Nat.le_of_ble_eq_true rfl) dX5_finish_33 ⟨Nat.le_of_ble_eq_true rfl, Nat.le_of_ble_eq_true rfl⟩ (hc.le0 (zc_L_le hI))) (fun N1 H locs hN1 hP hD hS => ?_)
      have hI : zc_I N1 := by rw [hN1]; exact zi_clear hI
      have hc : zb_c N N1 cells slots := by rw [hN1]; exact hc.eq zL_clear
      have hP : va_P g.1 vwCl (zc_ws g o d N1) H := hP
      have hD : va_D A (zc_ws g o d N1) := hD
      refine lv_iconst (v := (-1)) hx hb dX5_finish_36 (by decide) ?_
      refine lv_aload_n hx hb dX5_finish_37 rfl (lv_at hl 0 rfl) ?_
      refine va_get (ci := 5) (v := .ref (o 6)) hx hb hts iX5 hown hK hP 5 rfl rfl 0 (by decide) (hts _ w_221) (fun _ h9 => h9) rfl dX5_finish_38 ?_
      refine va_get (ci := 6) (v := .int (N1.1 62)) hx hb hts iX7 hown hK hP 6 rfl rfl 2 (by decide) (hts _ w_97) (fun _ h9 => h9) rfl dX5_finish_41 ?_
      refine lv_isub hx hb dX5_finish_44 ?_
      exact zc_rig hQ hx hb hr hlocks hK hP hD hS hc rfl (by unfold zk_finish; rw [(show zc_fin1 N = N from (by unfold zc_fin1; rw [if_neg c_7])), if_neg c_26]; rw [hN1, zc_clear_62]) (by unfold zc_finish; rw [(show zc_fin1 N = N from (by unfold zc_fin1; rw [if_neg c_7])), if_neg c_26]; exact hN1) dX5_finish_45
  · refine lv_aload_n hx hb dX5_finish_10 rfl (lv_at hl 0 rfl) ?_
    refine za_cv (wc := zc_ws g o d N) (wr := []) C hP hD hS [0, 1, 2, 3, 4, 5, 6, 7, 8, 9, 10, 11, 12, 13, 14, 15, 16] [] rfl rfl (by decide) (by decide) (za_runV C hP hD hS [0, 1, 2, 3, 4, 5, 6, 7, 8, 9, 10, 11, 12, 13, 14, 15, 16] rfl (by decide) rfl (kX5_markStart l g E o d N  hI ) w_353 mX5_markStart 5 rfl rfl rfl rfl hl.1 rfl (Nat.le_of_ble_eq_true rfl) dX5_finish_11 ⟨Nat.le_of_ble_eq_true rfl, Nat.le_of_ble_eq_true rfl⟩ (hc.le0 (zc_L_le hI))) (fun N2 H locs hN2 hP hD hS => ?_)
    have hI : zc_I N2 := by rw [hN2]; exact zi_mark hI
    have hc : zb_c N N2 cells slots := by rw [hN2]; exact hc.eq zL_mark
    have hP : va_P g.1 vwCl (zc_ws g o d N2) H := hP
    have hD : va_D A (zc_ws g o d N2) := hD
    refine lv_aload_n hx hb dX5_finish_14 rfl (lv_at hl 0 rfl) ?_
    refine zc_calli C hP hD hS hc (zl_endLine) (zb_runV C hP hD hS [0, 1, 2, 3, 4, 5, 6, 7, 8, 9, 10, 11, 12, 13, 14, 15, 16] rfl (by decide) rfl (kX5_endLine l g E o d N2  hI ) w_357 mX5_endLine 5 rfl rfl rfl rfl hl.1 rfl (Nat.le_of_ble_eq_true rfl) dX5_finish_15 ⟨Nat.le_of_ble_eq_true rfl, Nat.le_of_ble_eq_true rfl⟩ (hc.room (zc_L_le hI))) (fun r3 N3 d3 H locs cells slots hr3 hN3 hc hP hD hS => ?_)
    have hI : zc_I N3 := by rw [hN3]; exact zi_endLine hI
    refine lv_pop hx hb dX5_finish_18 rfl ?_
    refine lv_aload_n hx hb dX5_finish_19 rfl (lv_at hl 0 rfl) ?_
    refine va_get (ci := 5) (v := .ref (o 6)) hx hb hts iX5 hown hK hP 5 rfl rfl 0 (by decide) (hts _ w_221) (fun _ h9 => h9) rfl dX5_finish_20 ?_
    refine va_get (ci := 6) (v := .int (N3.1 65)) hx hb hts iX7 hown hK hP 6 rfl rfl 5 (by decide) (hts _ w_103) (fun _ h9 => h9) rfl dX5_finish_23 ?_
    refine lv_if_eq (tgt := 46) hx hb dX5_finish_26 (by decide) (fun c_26 => ?_) (fun c_26 => ?_)
    · refine lv_aload_n hx hb dX5_finish_46 rfl (lv_at hl 0 rfl) ?_
      refine va_get (ci := 5) (v := .ref (o 7)) hx hb hts iX5 hown hK hP 5 rfl rfl 1 (by decide) (hts _ w_222) (fun _ h9 => h9) rfl dX5_finish_47 ?_
      refine va_get (ci := 7) (v := .int (N3.1 71)) hx hb hts iX8 hown hK hP 7 rfl rfl 1 (by decide) (hts _ w_169) (fun _ h9 => h9) rfl dX5_finish_50 ?_
      exact zc_rig hQ hx hb hr hlocks hK hP hD hS hc rfl (by unfold zk_finish; rw [(show zc_fin1 N = N3 from (by unfold zc_fin1; rw [if_pos c_7, ← hN2]; exact hN3.symm)), if_pos c_26]) (by unfold zc_finish; rw [(show zc_fin1 N = N3 from (by unfold zc_fin1; rw [if_pos c_7, ← hN2]; exact hN3.symm)), if_pos c_26]) dX5_finish_53
    · refine lv_aload_n hx hb dX5_finish_29 rfl (lv_at hl 0 rfl) ?_
      refine va_get (ci := 5) (v := .ref (o 7)) hx hb hts iX5 hown hK hP 5 rfl rfl 1 (by decide) (hts _ w_222) (fun _ h9 => h9) rfl dX5_finish_30 ?_
      refine za_cv (wc := zc_ws g o d3 N3) (wr := []) C hP hD hS [0, 1, 2, 3, 4, 5, 6, 7, 8, 9, 10, 11, 12, 13, 14, 15, 16] [] rfl rfl (by decide) (by decide) (za_runV C hP hD hS [0, 1, 2, 3, 4, 5, 6, 7, 8, 9, 10, 11, 12, 13, 14, 15, 16] rfl (by decide) rfl (kX8_clear l g E o d3 N3  ) w_328 mX8_clear 7 rfl rfl rfl rfl hl.1 rfl (Nat.le_of_ble_eq_true rfl) dX5_finish_33 ⟨Nat.le_of_ble_eq_true rfl, Nat.le_of_ble_eq_true rfl⟩ (hc.le0 (zc_L_le hI))) (fun N4 H locs hN4 hP hD hS => ?_)
      have hI : zc_I N4 := by rw [hN4]; exact zi_clear hI
      have hc : zb_c N N4 cells slots := by rw [hN4]; exact hc.eq zL_clear
      have hP : va_P g.1 vwCl (zc_ws g o d3 N4) H := hP
      have hD : va_D A (zc_ws g o d3 N4) := hD
      refine lv_iconst (v := (-1)) hx hb dX5_finish_36 (by decide) ?_
      refine lv_aload_n hx hb dX5_finish_37 rfl (lv_at hl 0 rfl) ?_
      refine va_get (ci := 5) (v := .ref (o 6)) hx hb hts iX5 hown hK hP 5 rfl rfl 0 (by decide) (hts _ w_221) (fun _ h9 => h9) rfl dX5_finish_38 ?_
      refine va_get (ci := 6) (v := .int (N4.1 62)) hx hb hts iX7 hown hK hP 6 rfl rfl 2 (by decide) (hts _ w_97) (fun _ h9 => h9) rfl dX5_finish_41 ?_
      refine lv_isub hx hb dX5_finish_44 ?_
      exact zc_rig hQ hx hb hr hlocks hK hP hD hS hc rfl (by unfold zk_finish; rw [(show zc_fin1 N = N3 from (by unfold zc_fin1; rw [if_pos c_7, ← hN2]; exact hN3.symm)), if_neg c_26]; rw [hN4, zc_clear_62]) (by unfold zc_finish; rw [(show zc_fin1 N = N3 from (by unfold zc_fin1; rw [if_pos c_7, ← hN2]; exact hN3.symm)), if_neg c_26]; exact hN4) dX5_finish_45
