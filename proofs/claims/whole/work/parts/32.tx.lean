section
variable {p : Program} {l : Launch} {e : Env} {R : Room} {s : State} {m : MethodId} {args : Array Value} {below : List Frame} {meth : Method} {c : Code} {H : Heap} {locs : List Loc} {Q : State → Prop} {cc : ByteArray} {pc : Nat} {ls : Array Slot} {g : za_G} {A : Nat → Prop} {o d : Nat → Nat} {N N1 N2 : zc_N} {cells slots mc ms : Nat} {ok : Prop}
theorem zc_rix {v v2 : Int32} {ty : FieldType} (hQ : Q = MQ below (za_qi g (fun r (_ : Unit) => ok ∧ r = v2) (fun _ => zc_ws g o d N) A) args s mc ms A) (hx : p.tables.exec = Jvm.exec) (hb : c.code = cc) (hr : meth.sig.returnType = some ty) (hlocks : meth.locks = false) (hK : va_K g.1 vwCl (za_ty g) s) (hP : va_P g.1 vwCl (zc_ws g o d N) H) (hD : va_D A (zc_ws g o d N)) (hS : va_S A s.heap H locs) (hn : narrow ty (.int v) = .int v) (hok : ok) (e0 : v = v2) (h1 : cells ≤ mc) (h2 : slots ≤ ms) (hdg : decode cc pc = .ok (.ireturn, 1)) : W p l e R s m args below meth c H locs cells slots Q (F0 m pc ls [.int v]) :=
  za_ri hQ hx hb hr hlocks hK hP hD hS hn () ⟨hok, e0⟩ [0, 1, 2, 3, 4, 5, 6, 7, 8, 9, 10, 11, 12, 13, 14, 15, 16] rfl (by decide) rfl h1 h2 hdg
theorem zc_riwx {v v2 : Int32} {ty : FieldType} (hQ : Q = MQ below (za_qi g (fun r (u : zc_N) => ok ∧ r = v2 ∧ u = N2) (fun u => zc_ws g o d u) A) args s mc ms A) (hx : p.tables.exec = Jvm.exec) (hb : c.code = cc) (hr : meth.sig.returnType = some ty) (hlocks : meth.locks = false) (hK : va_K g.1 vwCl (za_ty g) s) (hP : va_P g.1 vwCl (zc_ws g o d N1) H) (hD : va_D A (zc_ws g o d N1)) (hS : va_S A s.heap H locs) (hn : narrow ty (.int v) = .int v) (hok : ok) (e0 : v = v2) (e1 : N1 = N2) (h1 : cells ≤ mc) (h2 : slots ≤ ms) (hdg : decode cc pc = .ok (.ireturn, 1)) : W p l e R s m args below meth c H locs cells slots Q (F0 m pc ls [.int v]) :=
  za_ri hQ hx hb hr hlocks hK hP hD hS hn N1 ⟨hok, e0, e1⟩ [0, 1, 2, 3, 4, 5, 6, 7, 8, 9, 10, 11, 12, 13, 14, 15, 16] rfl (by decide) rfl h1 h2 hdg
theorem zc_rlx {v v2 : Int64} (hQ : Q = MQ below (za_ql g (fun r (_ : Unit) => ok ∧ r = v2) (fun _ => zc_ws g o d N) A) args s mc ms A) (hx : p.tables.exec = Jvm.exec) (hb : c.code = cc) (hr : meth.sig.returnType = some .long) (hlocks : meth.locks = false) (hK : va_K g.1 vwCl (za_ty g) s) (hP : va_P g.1 vwCl (zc_ws g o d N) H) (hD : va_D A (zc_ws g o d N)) (hS : va_S A s.heap H locs) (hok : ok) (e0 : v = v2) (h1 : cells ≤ mc) (h2 : slots ≤ ms) (hdg : decode cc pc = .ok (.lreturn, 1)) : W p l e R s m args below meth c H locs cells slots Q (F0 m pc ls [.long v]) :=
  za_rl hQ hx hb hr hlocks hK hP hD hS () ⟨hok, e0⟩ [0, 1, 2, 3, 4, 5, 6, 7, 8, 9, 10, 11, 12, 13, 14, 15, 16] rfl (by decide) rfl h1 h2 hdg
end
abbrev zx_tok (N : zc_N) (k w : Int32) : Prop := zk_has N k = 0 ∨ w < 0 ∨ 8 < w
abbrev zx_byt (N : zc_N) (k i : Int32) : Prop := zk_byteOf N k i = -1
abbrev zx_num (N : zc_N) (k : Int32) : Prop := ¬ zk_fact N k 0 = 4 ∧ ¬ zk_fact N k 0 = 2
def zk_num (N : zc_N) (k : Int32) : Int64 := if zk_fact N k 0 = 4 then (zk_fact N k 10).toInt64 else zk_lowBits N k
abbrev zx_fit (N : zc_N) (k b : Int32) : Prop := ¬ zk_fact N k 0 = 2 ∨ b < 0 ∨ 512 < b
theorem zk_below_01 (N : zc_N) (k : Int32) (B : Nat) : zk_below N k B = 0 ∨ zk_below N k B = 1 := by
  unfold zk_below
  split
  · exact Or.inl rfl
  · exact zk_nobit_01 _ _ _ _
set_option maxHeartbeats 4000000 in
set_option maxRecDepth 100000 in
theorem kX9_token (l : Launch) (hl0 : l.stackTraces = false) (g : za_G) (E : za_E) (o d : Nat → Nat) (N : zc_N) (k w : Int32) (hI : zc_I N) : zx_Met l g E yX9_token cX9_token 3 (some .int) 6 1 6 [.ref (o 8), .int k, .int w] (zc_ws g o d N) (za_qi g (fun r (_ : Unit) => (¬ zx_tok N k w) ∧ r = zk_fact N k w) (fun _ => zc_ws g o d N)) (zx_q g (zx_tok N k w) (zc_ws g o d N)) := by
  refine zx_begin (by decide) (Nat.le_of_ble_eq_true rfl) RX9 rfl ?_
  intro p e s m args below meth co A ls Q H locs C hX ht hQ hr hlocks hnm hS hP hD hl
  obtain ⟨hx, hb, hml, hown, hts, hK, hA, hE⟩ := id C
  have hl : lv_has ls 3 [(0, .ref (o 8)), (1, .int k), (2, .int w)] := hl
  refine lv_aload_n hx hb dX9_token_0 rfl (lv_at hl 0 rfl) ?_
  refine va_get (ci := 8) (v := .ref (o 7)) hx hb hts iX9 hown hK hP 8 rfl rfl 1 (by decide) (hts _ w_267) (fun _ h9 => h9) rfl dX9_token_1 ?_
  refine lv_iload_n hx hb dX9_token_4 rfl (lv_at hl 1 rfl) ?_
  refine za_ci (wc := zc_ws g o d N) (wr := []) C hP hD hS [0, 1, 2, 3, 4, 5, 6, 7, 8, 9, 10, 11, 12, 13, 14, 15, 16] [] rfl rfl (by decide) (by decide) (za_runV C hP hD hS [0, 1, 2, 3, 4, 5, 6, 7, 8, 9, 10, 11, 12, 13, 14, 15, 16] rfl (by decide) rfl (kX8_has l g E o d N k hI ) w_679 mX8_has 7 rfl rfl rfl rfl hl.1 rfl (Nat.le_of_ble_eq_true rfl) dX9_token_5 ⟨Nat.le_of_ble_eq_true rfl, Nat.le_of_ble_eq_true rfl⟩ ⟨Nat.zero_le _, Nat.zero_le _⟩) (fun r1 _ H locs hr1 hP hD hS => ?_)
  subst hr1
  have hP : va_P g.1 vwCl (zc_ws g o d N) H := hP
  have hD : va_D A (zc_ws g o d N) := hD
  refine lv_if_eq (tgt := 21) hx hb dX9_token_8 (by decide) (fun c_8 => ?_) (fun c_8 => ?_)
  · exact zx_out hl0 C hX ht (show zx_tok N k w from Or.inl c_8) hQ hlocks hP hD hS hl.1 1 rfl dX9_token_21 dX9_token_24 dX9_token_25 dX9_token_27 dX9_token_30 (by decide) (Nat.le_of_ble_eq_true rfl) (Nat.le_of_ble_eq_true rfl) (Nat.le_of_ble_eq_true rfl) (Nat.le_of_ble_eq_true rfl) (Nat.le_of_ble_eq_true rfl)
  · refine lv_iload_n hx hb dX9_token_11 rfl (lv_at hl 2 rfl) ?_
    refine lv_if_lt (tgt := 21) hx hb dX9_token_12 (by decide) (fun c_12 => ?_) (fun c_12 => ?_)
    · exact zx_out hl0 C hX ht (show zx_tok N k w from Or.inr (Or.inl c_12)) hQ hlocks hP hD hS hl.1 1 rfl dX9_token_21 dX9_token_24 dX9_token_25 dX9_token_27 dX9_token_30 (by decide) (Nat.le_of_ble_eq_true rfl) (Nat.le_of_ble_eq_true rfl) (Nat.le_of_ble_eq_true rfl) (Nat.le_of_ble_eq_true rfl) (Nat.le_of_ble_eq_true rfl)
    · refine lv_iload_n hx hb dX9_token_15 rfl (lv_at hl 2 rfl) ?_
      refine lv_bipush (v := 8) hx hb dX9_token_16 (by decide) ?_
      refine za_icmp_le (tgt := 31) hx hb dX9_token_18 (by decide) (fun c_18 => ?_) (fun c_18 => ?_)
      · refine lv_aload_n hx hb dX9_token_31 rfl (lv_at hl 0 rfl) ?_
        refine va_get (ci := 8) (v := .ref (o 7)) hx hb hts iX9 hown hK hP 8 rfl rfl 1 (by decide) (hts _ w_267) (fun _ h9 => h9) rfl dX9_token_32 ?_
        refine lv_iload_n hx hb dX9_token_35 rfl (lv_at hl 1 rfl) ?_
        refine lv_iload_n hx hb dX9_token_36 rfl (lv_at hl 2 rfl) ?_
        refine za_ci (wc := zc_ws g o d N) (wr := []) C hP hD hS [0, 1, 2, 3, 4, 5, 6, 7, 8, 9, 10, 11, 12, 13, 14, 15, 16] [] rfl rfl (by decide) (by decide) (za_runV C hP hD hS [0, 1, 2, 3, 4, 5, 6, 7, 8, 9, 10, 11, 12, 13, 14, 15, 16] rfl (by decide) rfl (kX8_fact l g E o d N k w hI ) w_745 mX8_fact 7 rfl rfl rfl rfl hl.1 rfl (Nat.le_of_ble_eq_true rfl) dX9_token_37 ⟨Nat.le_of_ble_eq_true rfl, Nat.le_of_ble_eq_true rfl⟩ ⟨Nat.zero_le _, Nat.zero_le _⟩) (fun r2 _ H locs hr2 hP hD hS => ?_)
        subst hr2
        have hP : va_P g.1 vwCl (zc_ws g o d N) H := hP
        have hD : va_D A (zc_ws g o d N) := hD
        rw [hQ]
        exact vx_ret (zc_rix rfl hx hb hr hlocks hK hP hD hS rfl (fun h9 => by rcases h9 with h9 | h9 | h9; exact c_8 h9; exact c_12 h9; exact c_18 h9) (by rfl) (Nat.zero_le _) (Nat.zero_le _) dX9_token_40)
      · exact zx_out hl0 C hX ht (show zx_tok N k w from Or.inr (Or.inr c_18)) hQ hlocks hP hD hS hl.1 1 rfl dX9_token_21 dX9_token_24 dX9_token_25 dX9_token_27 dX9_token_30 (by decide) (Nat.le_of_ble_eq_true rfl) (Nat.le_of_ble_eq_true rfl) (Nat.le_of_ble_eq_true rfl) (Nat.le_of_ble_eq_true rfl) (Nat.le_of_ble_eq_true rfl)
set_option maxHeartbeats 4000000 in
set_option maxRecDepth 100000 in
theorem kX9_byteOf (l : Launch) (hl0 : l.stackTraces = false) (g : za_G) (E : za_E) (o d : Nat → Nat) (N : zc_N) (k i : Int32) (hI : zc_I N) : zx_Met l g E yX9_byteOf cX9_byteOf 4 (some .int) 6 1 6 [.ref (o 8), .int k, .int i] (zc_ws g o d N) (za_qi g (fun r (_ : Unit) => (¬ zx_byt N k i) ∧ r = zk_byteOf N k i) (fun _ => zc_ws g o d N)) (zx_q g (zx_byt N k i) (zc_ws g o d N)) := by
  refine zx_begin (by decide) (Nat.le_of_ble_eq_true rfl) RX9 rfl ?_
  intro p e s m args below meth co A ls Q H locs C hX ht hQ hr hlocks hnm hS hP hD hl
  obtain ⟨hx, hb, hml, hown, hts, hK, hA, hE⟩ := id C
  have hl : lv_has ls 4 [(0, .ref (o 8)), (1, .int k), (2, .int i)] := hl
  refine lv_aload_n hx hb dX9_byteOf_0 rfl (lv_at hl 0 rfl) ?_
  refine va_get (ci := 8) (v := .ref (o 7)) hx hb hts iX9 hown hK hP 8 rfl rfl 1 (by decide) (hts _ w_267) (fun _ h9 => h9) rfl dX9_byteOf_1 ?_
  refine lv_iload_n hx hb dX9_byteOf_4 rfl (lv_at hl 1 rfl) ?_
  refine lv_iload_n hx hb dX9_byteOf_5 rfl (lv_at hl 2 rfl) ?_
  refine za_ci (wc := zc_ws g o d N) (wr := []) C hP hD hS [0, 1, 2, 3, 4, 5, 6, 7, 8, 9, 10, 11, 12, 13, 14, 15, 16] [] rfl rfl (by decide) (by decide) (za_runV C hP hD hS [0, 1, 2, 3, 4, 5, 6, 7, 8, 9, 10, 11, 12, 13, 14, 15, 16] rfl (by decide) rfl (kX8_byteOfToken l g E o d N k i hI ) w_753 mX8_byteOfToken 7 rfl rfl rfl rfl hl.1 rfl (Nat.le_of_ble_eq_true rfl) dX9_byteOf_6 ⟨Nat.le_of_ble_eq_true rfl, Nat.le_of_ble_eq_true rfl⟩ ⟨Nat.zero_le _, Nat.zero_le _⟩) (fun r1 _ H locs hr1 hP hD hS => ?_)
  subst hr1
  have hP : va_P g.1 vwCl (zc_ws g o d N) H := hP
  have hD : va_D A (zc_ws g o d N) := hD
  refine lv_istore_n (lv' := [(3, .int (zk_byteOf N k i)), (0, .ref (o 8)), (1, .int k), (2, .int i)]) hx hb dX9_byteOf_9 rfl hl (by decide) rfl (fun ls hl => ?_)
  refine lv_iload_n hx hb dX9_byteOf_10 rfl (lv_at hl 0 rfl) ?_
  refine lv_iconst (v := (-1)) hx hb dX9_byteOf_11 (by decide) ?_
  refine lv_icmp_ne (tgt := 25) hx hb dX9_byteOf_12 (by decide) (fun c_12 => ?_) (fun c_12 => ?_)
  · refine lv_iload_n hx hb dX9_byteOf_25 rfl (lv_at hl 0 rfl) ?_
    rw [hQ]
    exact vx_ret (zc_rix rfl hx hb hr hlocks hK hP hD hS rfl c_12 (by rfl) (Nat.zero_le _) (Nat.zero_le _) dX9_byteOf_26)
  · exact zx_out hl0 C hX ht (show zx_byt N k i from c_12) hQ hlocks hP hD hS hl.1 2 rfl dX9_byteOf_15 dX9_byteOf_18 dX9_byteOf_19 dX9_byteOf_21 dX9_byteOf_24 (by decide) (Nat.le_of_ble_eq_true rfl) (Nat.le_of_ble_eq_true rfl) (Nat.le_of_ble_eq_true rfl) (Nat.le_of_ble_eq_true rfl) (Nat.le_of_ble_eq_true rfl)
set_option maxHeartbeats 4000000 in
set_option maxRecDepth 100000 in
theorem kX9_number (l : Launch) (hl0 : l.stackTraces = false) (g : za_G) (E : za_E) (o d : Nat → Nat) (N : zc_N) (k : Int32) (hI : zc_I N) : zx_Met l g E yX9_number cX9_number 3 (some .long) 6 1 6 [.ref (o 8), .int k] (zc_ws g o d N) (za_ql g (fun r (_ : Unit) => (¬ zx_num N k) ∧ r = zk_num N k) (fun _ => zc_ws g o d N)) (zx_q g (zx_num N k) (zc_ws g o d N)) := by
  refine zx_begin (by decide) (Nat.le_of_ble_eq_true rfl) RX9 rfl ?_
  intro p e s m args below meth co A ls Q H locs C hX ht hQ hr hlocks hnm hS hP hD hl
  obtain ⟨hx, hb, hml, hown, hts, hK, hA, hE⟩ := id C
  have hl : lv_has ls 3 [(0, .ref (o 8)), (1, .int k)] := hl
  refine lv_aload_n hx hb dX9_number_0 rfl (lv_at hl 0 rfl) ?_
  refine va_get (ci := 8) (v := .ref (o 7)) hx hb hts iX9 hown hK hP 8 rfl rfl 1 (by decide) (hts _ w_267) (fun _ h9 => h9) rfl dX9_number_1 ?_
  refine lv_iload_n hx hb dX9_number_4 rfl (lv_at hl 1 rfl) ?_
  refine za_ci (wc := zc_ws g o d N) (wr := []) C hP hD hS [0, 1, 2, 3, 4, 5, 6, 7, 8, 9, 10, 11, 12, 13, 14, 15, 16] [] rfl rfl (by decide) (by decide) (za_runV C hP hD hS [0, 1, 2, 3, 4, 5, 6, 7, 8, 9, 10, 11, 12, 13, 14, 15, 16] rfl (by decide) rfl (kX8_kindOf l g E o d N k hI ) w_767 mX8_kindOf 7 rfl rfl rfl rfl hl.1 rfl (Nat.le_of_ble_eq_true rfl) dX9_number_5 ⟨Nat.le_of_ble_eq_true rfl, Nat.le_of_ble_eq_true rfl⟩ ⟨Nat.zero_le _, Nat.zero_le _⟩) (fun r1 _ H locs hr1 hP hD hS => ?_)
  subst hr1
  have hP : va_P g.1 vwCl (zc_ws g o d N) H := hP
  have hD : va_D A (zc_ws g o d N) := hD
  refine lv_istore_n (lv' := [(2, .int (zk_fact N k 0)), (0, .ref (o 8)), (1, .int k)]) hx hb dX9_number_8 rfl hl (by decide) rfl (fun ls hl => ?_)
  refine lv_iload_n hx hb dX9_number_9 rfl (lv_at hl 0 rfl) ?_
  refine lv_iconst (v := 4) hx hb dX9_number_10 (by decide) ?_
  refine lv_icmp_ne (tgt := 26) hx hb dX9_number_11 (by decide) (fun c_11 => ?_) (fun c_11 => ?_)
  · refine lv_iload_n hx hb dX9_number_26 rfl (lv_at hl 0 rfl) ?_
    refine lv_iconst (v := 2) hx hb dX9_number_27 (by decide) ?_
    refine lv_icmp_eq (tgt := 41) hx hb dX9_number_28 (by decide) (fun c_28 => ?_) (fun c_28 => ?_)
    · refine lv_aload_n hx hb dX9_number_41 rfl (lv_at hl 1 rfl) ?_
      refine va_get (ci := 8) (v := .ref (o 1)) hx hb hts iX9 hown hK hP 8 rfl rfl 3 (by decide) (hts _ w_269) (fun _ h9 => h9) rfl dX9_number_42 ?_
      refine lv_iload_n hx hb dX9_number_45 rfl (lv_at hl 2 rfl) ?_
      refine za_cl (wc := zc_ws g o d N) (wr := []) C hP hD hS [0, 1, 2, 3, 4, 5, 6, 7, 8, 9, 10, 11, 12, 13, 14, 15, 16] [] rfl rfl (by decide) (by decide) (za_runV C hP hD hS [0, 1, 2, 3, 4, 5, 6, 7, 8, 9, 10, 11, 12, 13, 14, 15, 16] rfl (by decide) rfl (kX1_lowBits l g E o d N k hI ) w_772 mX1_lowBits 1 rfl rfl rfl rfl hl.1 rfl (Nat.le_of_ble_eq_true rfl) dX9_number_46 ⟨Nat.le_of_ble_eq_true rfl, Nat.le_of_ble_eq_true rfl⟩ ⟨Nat.zero_le _, Nat.zero_le _⟩) (fun r2 _ H locs hr2 hP hD hS => ?_)
      subst hr2
      have hP : va_P g.1 vwCl (zc_ws g o d N) H := hP
      have hD : va_D A (zc_ws g o d N) := hD
      rw [hQ]
      exact vx_ret (zc_rlx rfl hx hb hr hlocks hK hP hD hS (fun h9 => by first | exact h9.1 c_11 | exact h9.2 c_28) (by unfold zk_num; rw [if_neg c_11]) (Nat.zero_le _) (Nat.zero_le _) dX9_number_49)
    · exact zx_out hl0 C hX ht (show zx_num N k from ⟨c_11, c_28⟩) hQ hlocks hP hD hS hl.1 3 rfl dX9_number_31 dX9_number_34 dX9_number_35 dX9_number_37 dX9_number_40 (by decide) (Nat.le_of_ble_eq_true rfl) (Nat.le_of_ble_eq_true rfl) (Nat.le_of_ble_eq_true rfl) (Nat.le_of_ble_eq_true rfl) (Nat.le_of_ble_eq_true rfl)
  · refine lv_aload_n hx hb dX9_number_14 rfl (lv_at hl 1 rfl) ?_
    refine va_get (ci := 8) (v := .ref (o 7)) hx hb hts iX9 hown hK hP 8 rfl rfl 1 (by decide) (hts _ w_267) (fun _ h9 => h9) rfl dX9_number_15 ?_
    refine lv_iload_n hx hb dX9_number_18 rfl (lv_at hl 2 rfl) ?_
    refine lv_bipush (v := 10) hx hb dX9_number_19 (by decide) ?_
    refine za_ci (wc := zc_ws g o d N) (wr := []) C hP hD hS [0, 1, 2, 3, 4, 5, 6, 7, 8, 9, 10, 11, 12, 13, 14, 15, 16] [] rfl rfl (by decide) (by decide) (za_runV C hP hD hS [0, 1, 2, 3, 4, 5, 6, 7, 8, 9, 10, 11, 12, 13, 14, 15, 16] rfl (by decide) rfl (kX8_fact l g E o d N k 10 hI ) w_745 mX8_fact 7 rfl rfl rfl rfl hl.1 rfl (Nat.le_of_ble_eq_true rfl) dX9_number_21 ⟨Nat.le_of_ble_eq_true rfl, Nat.le_of_ble_eq_true rfl⟩ ⟨Nat.zero_le _, Nat.zero_le _⟩) (fun r3 _ H locs hr3 hP hD hS => ?_)
    subst hr3
    have hP : va_P g.1 vwCl (zc_ws g o d N) H := hP
    have hD : va_D A (zc_ws g o d N) := hD
    refine lv_i2l (v := (zk_fact N k 10).toInt64) hx hb dX9_number_24 rfl ?_
    rw [hQ]
    exact vx_ret (zc_rlx rfl hx hb hr hlocks hK hP hD hS (fun h9 => by first | exact h9.1 c_11 | exact h9.2 c_28) (by unfold zk_num; rw [if_pos c_11]) (Nat.zero_le _) (Nat.zero_le _) dX9_number_25)
set_option maxHeartbeats 4000000 in
set_option maxRecDepth 100000 in
theorem kX9_fits (l : Launch) (hl0 : l.stackTraces = false) (g : za_G) (E : za_E) (o d : Nat → Nat) (N : zc_N) (k b : Int32) (hI : zc_I N) : zx_Met l g E yX9_fits cX9_fits 3 (some .boolean) 6 1 6 [.ref (o 8), .int k, .int b] (zc_ws g o d N) (za_qi g (fun r (u : zc_N) => (¬ zx_fit N k b) ∧ r = zk_below N k b.toNatClampNeg ∧ u = zc_below N k) (fun u => zc_ws g o d u)) (zx_q g (zx_fit N k b) (zc_ws g o d N)) := by
  refine zx_begin (by decide) (Nat.le_of_ble_eq_true rfl) RX9 rfl ?_
  intro p e s m args below meth co A ls Q H locs C hX ht hQ hr hlocks hnm hS hP hD hl
  obtain ⟨hx, hb, hml, hown, hts, hK, hA, hE⟩ := id C
  have hl : lv_has ls 3 [(0, .ref (o 8)), (1, .int k), (2, .int b)] := hl
  refine lv_aload_n hx hb dX9_fits_0 rfl (lv_at hl 0 rfl) ?_
  refine va_get (ci := 8) (v := .ref (o 7)) hx hb hts iX9 hown hK hP 8 rfl rfl 1 (by decide) (hts _ w_267) (fun _ h9 => h9) rfl dX9_fits_1 ?_
  refine lv_iload_n hx hb dX9_fits_4 rfl (lv_at hl 1 rfl) ?_
  refine za_ci (wc := zc_ws g o d N) (wr := []) C hP hD hS [0, 1, 2, 3, 4, 5, 6, 7, 8, 9, 10, 11, 12, 13, 14, 15, 16] [] rfl rfl (by decide) (by decide) (za_runV C hP hD hS [0, 1, 2, 3, 4, 5, 6, 7, 8, 9, 10, 11, 12, 13, 14, 15, 16] rfl (by decide) rfl (kX8_kindOf l g E o d N k hI ) w_767 mX8_kindOf 7 rfl rfl rfl rfl hl.1 rfl (Nat.le_of_ble_eq_true rfl) dX9_fits_5 ⟨Nat.le_of_ble_eq_true rfl, Nat.le_of_ble_eq_true rfl⟩ ⟨Nat.zero_le _, Nat.zero_le _⟩) (fun r1 _ H locs hr1 hP hD hS => ?_)
  subst hr1
  have hP : va_P g.1 vwCl (zc_ws g o d N) H := hP
  have hD : va_D A (zc_ws g o d N) := hD
  refine lv_iconst (v := 2) hx hb dX9_fits_8 (by decide) ?_
  refine lv_icmp_ne (tgt := 23) hx hb dX9_fits_9 (by decide) (fun c_9 => ?_) (fun c_9 => ?_)
  · exact zx_out hl0 C hX ht (show zx_fit N k b from Or.inl c_9) hQ hlocks hP hD hS hl.1 4 rfl dX9_fits_23 dX9_fits_26 dX9_fits_27 dX9_fits_29 dX9_fits_32 (by decide) (Nat.le_of_ble_eq_true rfl) (Nat.le_of_ble_eq_true rfl) (Nat.le_of_ble_eq_true rfl) (Nat.le_of_ble_eq_true rfl) (Nat.le_of_ble_eq_true rfl)
  · refine lv_iload_n hx hb dX9_fits_12 rfl (lv_at hl 2 rfl) ?_
    refine lv_if_lt (tgt := 23) hx hb dX9_fits_13 (by decide) (fun c_13 => ?_) (fun c_13 => ?_)
    · exact zx_out hl0 C hX ht (show zx_fit N k b from Or.inr (Or.inl c_13)) hQ hlocks hP hD hS hl.1 4 rfl dX9_fits_23 dX9_fits_26 dX9_fits_27 dX9_fits_29 dX9_fits_32 (by decide) (Nat.le_of_ble_eq_true rfl) (Nat.le_of_ble_eq_true rfl) (Nat.le_of_ble_eq_true rfl) (Nat.le_of_ble_eq_true rfl) (Nat.le_of_ble_eq_true rfl)
    · refine lv_iload_n hx hb dX9_fits_16 rfl (lv_at hl 2 rfl) ?_
      refine lv_sipush (v := 512) hx hb dX9_fits_17 (by decide) ?_
      refine za_icmp_le (tgt := 33) hx hb dX9_fits_20 (by decide) (fun c_20 => ?_) (fun c_20 => ?_)
      · have hB2 : b = nI b.toNatClampNeg ∧ b.toNatClampNeg < 513 := by
          obtain ⟨B, hB1, hB3⟩ := nI_of c_13
          have e9 : b.toNatClampNeg = B := by rw [hB3]; exact nI_clamp hB1
          rw [e9]
          refine ⟨hB3, ?_⟩
          rcases Nat.lt_or_ge B 513 with q | q
          · exact q
          · exact absurd (by rw [hB3]; exact nI_lt (show 512 < B by omega) hB1) c_20
        refine lv_aload_n hx hb dX9_fits_33 rfl (lv_at hl 0 rfl) ?_
        refine va_get (ci := 8) (v := .ref (o 1)) hx hb hts iX9 hown hK hP 8 rfl rfl 3 (by decide) (hts _ w_269) (fun _ h9 => h9) rfl dX9_fits_34 ?_
        refine lv_iload_n hx hb dX9_fits_37 rfl (lv_at hl 1 rfl) ?_
        refine lv_iload_n hx hb dX9_fits_38 rfl (lv_at hl 2 rfl) ?_
        refine za_top (v := nI b.toNatClampNeg) (hB2.1) ?_
        refine za_ci (wc := zc_ws g o d N) (wr := []) C hP hD hS [0, 1, 2, 3, 4, 5, 6, 7, 8, 9, 10, 11, 12, 13, 14, 15, 16] [] rfl rfl (by decide) (by decide) (za_runV C hP hD hS [0, 1, 2, 3, 4, 5, 6, 7, 8, 9, 10, 11, 12, 13, 14, 15, 16] rfl (by decide) rfl (kX1_isBelowPowerOfTwo l g E o d N k b.toNatClampNeg hI hB2.2) w_791 mX1_isBelowPowerOfTwo 1 rfl rfl rfl rfl hl.1 rfl (Nat.le_of_ble_eq_true rfl) dX9_fits_39 ⟨Nat.le_of_ble_eq_true rfl, Nat.le_of_ble_eq_true rfl⟩ ⟨Nat.zero_le _, Nat.zero_le _⟩) (fun r2 N2 H locs hN2 hP hD hS => ?_)
        obtain ⟨hr2, hN2⟩ := hN2
        have hI : zc_I N2 := by rw [hN2]; exact zi_below hI _
        have hP : va_P g.1 vwCl (zc_ws g o d N2) H := hP
        have hD : va_D A (zc_ws g o d N2) := hD
        rw [hQ]
        exact vx_ret (zc_riwx rfl hx hb hr hlocks hK hP hD hS (by rw [hr2]; exact z_nar01 (zk_below_01 _ _ _)) (fun h9 => by rcases h9 with h9 | h9 | h9; exact h9 c_9; exact c_13 h9; exact c_20 h9) (by exact hr2) (by exact hN2) (Nat.zero_le _) (Nat.zero_le _) dX9_fits_42)
      · exact zx_out hl0 C hX ht (show zx_fit N k b from Or.inr (Or.inr c_20)) hQ hlocks hP hD hS hl.1 4 rfl dX9_fits_23 dX9_fits_26 dX9_fits_27 dX9_fits_29 dX9_fits_32 (by decide) (Nat.le_of_ble_eq_true rfl) (Nat.le_of_ble_eq_true rfl) (Nat.le_of_ble_eq_true rfl) (Nat.le_of_ble_eq_true rfl) (Nat.le_of_ble_eq_true rfl)
