theorem z_tab (l : List Int) (n : Nat) (bad : List Nat) {df : Int} (h : ((List.range l.length).all fun k => bad.contains k || decide (l[k]? = some df)) = true) (hn : n < l.length) (hb : n ∉ bad) : l.toArray[n]? = some df := by
  have h1 := List.all_eq_true.mp h n (List.mem_range.mpr hn)
  rw [Bool.or_eq_true] at h1
  rcases h1 with h1 | h1
  · exact absurd (List.contains_iff_mem.mp h1) hb
  · rw [List.getElem?_toArray]
    exact of_decide_eq_true h1
theorem zk_inlt {x : Int32} {n : Nat} (h : vp_in x n) (hn : n ≤ 400000) : x < nI n := by
  obtain ⟨j, hj, rfl⟩ := nI_of (fun z => h (Or.inl z))
  have h2 : ¬ n ≤ (nI j).toNatClampNeg := fun z => h (Or.inr z)
  rw [nI_clamp hj] at h2
  exact nI_lt (by omega) (by omega)
theorem z_toI {x k : Int32} {n : Int} (h : x.toInt = n) (hk : k.toInt = n) : x = k := Int32.toInt_inj.mp (h.trans hk.symm)
theorem zn_X9_9 : Cond.methodLinkNest RX9 9 yX7_init RX9 ∈ za_nest := .head _
theorem zn_X9_18 : Cond.methodLinkNest RX9 18 yX8_init RX9 ∈ za_nest := .tail _ (.head _)
theorem zn_X8_21 : Cond.methodLinkNest RX8 21 yX0_init RX9 ∈ za_nest := .tail _ (.tail _ (.head _))
theorem zn_X7_49 : Cond.methodLinkNest RX7 49 yX9_holdsCode RX9 ∈ za_nest := .tail _ (.tail _ (.tail _ (.head _)))
theorem zn_X5_104 : Cond.methodLinkNest RX5 104 yX9_isLetter RX9 ∈ za_nest := .tail _ (.tail _ (.tail _ (.tail _ (.head _))))
theorem zn_X5_155 : Cond.methodLinkNest RX5 155 yX9_isNamePart RX9 ∈ za_nest := .tail _ (.tail _ (.tail _ (.tail _ (.tail _ (.head _)))))
theorem zn_X5_111 : Cond.methodLinkNest RX5 111 yX9_isDigit RX9 ∈ za_nest := .tail _ (.tail _ (.tail _ (.tail _ (.tail _ (.tail _ (.head _))))))
theorem zn_X3_71 : Cond.methodLinkNest RX3 71 yX9_digitOf RX9 ∈ za_nest := .tail _ (.tail _ (.tail _ (.tail _ (.tail _ (.tail _ (.tail _ (.head _)))))))
theorem zn_X3_60 : Cond.methodLinkNest RX3 60 yX9_isDigit RX9 ∈ za_nest := .tail _ (.tail _ (.tail _ (.tail _ (.tail _ (.tail _ (.tail _ (.tail _ (.head _))))))))
theorem zn_X3_38 : Cond.methodLinkNest RX3 38 yX9_isNamePart RX9 ∈ za_nest := .tail _ (.tail _ (.tail _ (.tail _ (.tail _ (.tail _ (.tail _ (.tail _ (.tail _ (.head _)))))))))
theorem zn_X4_65 : Cond.methodLinkNest RX4 65 yX9_digitOf RX9 ∈ za_nest := .tail _ (.tail _ (.tail _ (.tail _ (.tail _ (.tail _ (.tail _ (.tail _ (.tail _ (.tail _ (.head _))))))))))
theorem zn_X4_70 : Cond.methodLinkNest RX4 70 yX9_holdsCode RX9 ∈ za_nest := .tail _ (.tail _ (.tail _ (.tail _ (.tail _ (.tail _ (.tail _ (.tail _ (.tail _ (.tail _ (.tail _ (.head _)))))))))))
theorem zn_X1_36 : Cond.methodLinkNest RX1 36 yX9_digitOf RX9 ∈ za_nest := .tail _ (.tail _ (.tail _ (.tail _ (.tail _ (.tail _ (.tail _ (.tail _ (.tail _ (.tail _ (.tail _ (.tail _ (.head _))))))))))))
set_option maxHeartbeats 4000000 in
set_option maxRecDepth 100000 in
theorem kX9_isDigit (l : Launch) (g : za_G) (E : za_E) (x : Int32) : za_Ci l g E yX9_isDigit cX9_isDigit 1 ((some .boolean)) 0 0 0 [.int x] [] (fun r (_ : Unit) => r = zk_isDigit x) (fun _ => []) := by
  refine za_begin (by decide) (Nat.le_of_ble_eq_true rfl) RX9 rfl ?_
  intro p e s m args below meth co A ls Q H locs C hQ hr hlocks hnm hS hP hD hl
  obtain ⟨hx, hb, hml, hown, hts, hK, hA, hE⟩ := id C
  have hl : lv_has ls 1 [(0, .int x)] := hl
  refine lv_iload_n hx hb dX9_isDigit_0 rfl (lv_at hl 0 rfl) ?_
  refine lv_bipush (v := 48) hx hb dX9_isDigit_1 (by decide) ?_
  refine lv_icmp_lt (tgt := 16) hx hb dX9_isDigit_3 (by decide) (fun c_3 => ?_) (fun c_3 => ?_)
  · refine lv_iconst (v := 0) hx hb dX9_isDigit_16 (by decide) ?_
    exact zm_rn hQ hx hb hr hlocks hK hP hD hS rfl (by simp [zk_isDigit, zq_upd, c_3]) dX9_isDigit_17
  · refine lv_iload_n hx hb dX9_isDigit_6 rfl (lv_at hl 0 rfl) ?_
    refine lv_bipush (v := 57) hx hb dX9_isDigit_7 (by decide) ?_
    refine lv_icmp_gt (tgt := 16) hx hb dX9_isDigit_9 (by decide) (fun c_9 => ?_) (fun c_9 => ?_)
    · refine lv_iconst (v := 0) hx hb dX9_isDigit_16 (by decide) ?_
      exact zm_rn hQ hx hb hr hlocks hK hP hD hS rfl (by simp [zk_isDigit, zq_upd, c_3, c_9]) dX9_isDigit_17
    · refine lv_iconst (v := 1) hx hb dX9_isDigit_12 (by decide) ?_
      refine lv_goto (tgt := 17) hx hb dX9_isDigit_13 (by decide) ?_
      exact zm_rn hQ hx hb hr hlocks hK hP hD hS rfl (by simp [zk_isDigit, zq_upd, c_3, c_9]) dX9_isDigit_17
set_option maxHeartbeats 4000000 in
set_option maxRecDepth 100000 in
theorem kX9_isLetter (l : Launch) (g : za_G) (E : za_E) (x : Int32) : za_Ci l g E yX9_isLetter cX9_isLetter 1 ((some .boolean)) 0 0 0 [.int x] [] (fun r (_ : Unit) => r = zk_isLetter x) (fun _ => []) := by
  refine za_begin (by decide) (Nat.le_of_ble_eq_true rfl) RX9 rfl ?_
  intro p e s m args below meth co A ls Q H locs C hQ hr hlocks hnm hS hP hD hl
  obtain ⟨hx, hb, hml, hown, hts, hK, hA, hE⟩ := id C
  have hl : lv_has ls 1 [(0, .int x)] := hl
  refine lv_iload_n hx hb dX9_isLetter_0 rfl (lv_at hl 0 rfl) ?_
  refine lv_bipush (v := 97) hx hb dX9_isLetter_1 (by decide) ?_
  refine lv_icmp_lt (tgt := 12) hx hb dX9_isLetter_3 (by decide) (fun c_3 => ?_) (fun c_3 => ?_)
  · refine lv_iload_n hx hb dX9_isLetter_12 rfl (lv_at hl 0 rfl) ?_
    refine lv_bipush (v := 65) hx hb dX9_isLetter_13 (by decide) ?_
    refine lv_icmp_lt (tgt := 24) hx hb dX9_isLetter_15 (by decide) (fun c_15 => ?_) (fun c_15 => ?_)
    · refine lv_iload_n hx hb dX9_isLetter_24 rfl (lv_at hl 0 rfl) ?_
      refine lv_bipush (v := 95) hx hb dX9_isLetter_25 (by decide) ?_
      refine lv_icmp_ne (tgt := 34) hx hb dX9_isLetter_27 (by decide) (fun c_27 => ?_) (fun c_27 => ?_)
      · refine lv_iconst (v := 0) hx hb dX9_isLetter_34 (by decide) ?_
        exact zm_rn hQ hx hb hr hlocks hK hP hD hS rfl (by simp [zk_isLetter, zq_upd, c_3, c_15, c_27]) dX9_isLetter_35
      · refine lv_iconst (v := 1) hx hb dX9_isLetter_30 (by decide) ?_
        refine lv_goto (tgt := 35) hx hb dX9_isLetter_31 (by decide) ?_
        exact zm_rn hQ hx hb hr hlocks hK hP hD hS rfl (by simp [zk_isLetter, zq_upd, c_3, c_15, eq_true c_27]) dX9_isLetter_35
    · refine lv_iload_n hx hb dX9_isLetter_18 rfl (lv_at hl 0 rfl) ?_
      refine lv_bipush (v := 90) hx hb dX9_isLetter_19 (by decide) ?_
      refine za_icmp_le (tgt := 30) hx hb dX9_isLetter_21 (by decide) (fun c_21 => ?_) (fun c_21 => ?_)
      · refine lv_iconst (v := 1) hx hb dX9_isLetter_30 (by decide) ?_
        refine lv_goto (tgt := 35) hx hb dX9_isLetter_31 (by decide) ?_
        exact zm_rn hQ hx hb hr hlocks hK hP hD hS rfl (by simp [zk_isLetter, zq_upd, c_3, c_15, c_21]) dX9_isLetter_35
      · refine lv_iload_n hx hb dX9_isLetter_24 rfl (lv_at hl 0 rfl) ?_
        refine lv_bipush (v := 95) hx hb dX9_isLetter_25 (by decide) ?_
        refine lv_icmp_ne (tgt := 34) hx hb dX9_isLetter_27 (by decide) (fun c_27 => ?_) (fun c_27 => ?_)
        · refine lv_iconst (v := 0) hx hb dX9_isLetter_34 (by decide) ?_
          exact zm_rn hQ hx hb hr hlocks hK hP hD hS rfl (by simp [zk_isLetter, zq_upd, c_3, c_15, c_21, c_27]) dX9_isLetter_35
        · refine lv_iconst (v := 1) hx hb dX9_isLetter_30 (by decide) ?_
          refine lv_goto (tgt := 35) hx hb dX9_isLetter_31 (by decide) ?_
          exact zm_rn hQ hx hb hr hlocks hK hP hD hS rfl (by simp [zk_isLetter, zq_upd, c_3, c_15, c_21, eq_true c_27]) dX9_isLetter_35
  · refine lv_iload_n hx hb dX9_isLetter_6 rfl (lv_at hl 0 rfl) ?_
    refine lv_bipush (v := 122) hx hb dX9_isLetter_7 (by decide) ?_
    refine za_icmp_le (tgt := 30) hx hb dX9_isLetter_9 (by decide) (fun c_9 => ?_) (fun c_9 => ?_)
    · refine lv_iconst (v := 1) hx hb dX9_isLetter_30 (by decide) ?_
      refine lv_goto (tgt := 35) hx hb dX9_isLetter_31 (by decide) ?_
      exact zm_rn hQ hx hb hr hlocks hK hP hD hS rfl (by simp [zk_isLetter, zq_upd, c_3, c_9]) dX9_isLetter_35
    · refine lv_iload_n hx hb dX9_isLetter_12 rfl (lv_at hl 0 rfl) ?_
      refine lv_bipush (v := 65) hx hb dX9_isLetter_13 (by decide) ?_
      refine lv_icmp_lt (tgt := 24) hx hb dX9_isLetter_15 (by decide) (fun c_15 => ?_) (fun c_15 => ?_)
      · refine lv_iload_n hx hb dX9_isLetter_24 rfl (lv_at hl 0 rfl) ?_
        refine lv_bipush (v := 95) hx hb dX9_isLetter_25 (by decide) ?_
        refine lv_icmp_ne (tgt := 34) hx hb dX9_isLetter_27 (by decide) (fun c_27 => ?_) (fun c_27 => ?_)
        · refine lv_iconst (v := 0) hx hb dX9_isLetter_34 (by decide) ?_
          exact zm_rn hQ hx hb hr hlocks hK hP hD hS rfl (by simp [zk_isLetter, zq_upd, c_3, c_9, c_15, c_27]) dX9_isLetter_35
        · refine lv_iconst (v := 1) hx hb dX9_isLetter_30 (by decide) ?_
          refine lv_goto (tgt := 35) hx hb dX9_isLetter_31 (by decide) ?_
          exact zm_rn hQ hx hb hr hlocks hK hP hD hS rfl (by simp [zk_isLetter, zq_upd, c_3, c_9, c_15, eq_true c_27]) dX9_isLetter_35
      · refine lv_iload_n hx hb dX9_isLetter_18 rfl (lv_at hl 0 rfl) ?_
        refine lv_bipush (v := 90) hx hb dX9_isLetter_19 (by decide) ?_
        refine za_icmp_le (tgt := 30) hx hb dX9_isLetter_21 (by decide) (fun c_21 => ?_) (fun c_21 => ?_)
        · refine lv_iconst (v := 1) hx hb dX9_isLetter_30 (by decide) ?_
          refine lv_goto (tgt := 35) hx hb dX9_isLetter_31 (by decide) ?_
          exact zm_rn hQ hx hb hr hlocks hK hP hD hS rfl (by simp [zk_isLetter, zq_upd, c_3, c_9, c_15, c_21]) dX9_isLetter_35
        · refine lv_iload_n hx hb dX9_isLetter_24 rfl (lv_at hl 0 rfl) ?_
          refine lv_bipush (v := 95) hx hb dX9_isLetter_25 (by decide) ?_
          refine lv_icmp_ne (tgt := 34) hx hb dX9_isLetter_27 (by decide) (fun c_27 => ?_) (fun c_27 => ?_)
          · refine lv_iconst (v := 0) hx hb dX9_isLetter_34 (by decide) ?_
            exact zm_rn hQ hx hb hr hlocks hK hP hD hS rfl (by simp [zk_isLetter, zq_upd, c_3, c_9, c_15, c_21, c_27]) dX9_isLetter_35
          · refine lv_iconst (v := 1) hx hb dX9_isLetter_30 (by decide) ?_
            refine lv_goto (tgt := 35) hx hb dX9_isLetter_31 (by decide) ?_
            exact zm_rn hQ hx hb hr hlocks hK hP hD hS rfl (by simp [zk_isLetter, zq_upd, c_3, c_9, c_15, c_21, eq_true c_27]) dX9_isLetter_35
set_option maxHeartbeats 4000000 in
set_option maxRecDepth 100000 in
theorem kX9_isNamePart (l : Launch) (g : za_G) (E : za_E) (x : Int32) : za_Ci l g E yX9_isNamePart cX9_isNamePart 1 ((some .boolean)) 1 0 0 [.int x] [] (fun r (_ : Unit) => r = zk_isPart x) (fun _ => []) := by
  refine za_begin (by decide) (Nat.le_of_ble_eq_true rfl) RX9 rfl ?_
  intro p e s m args below meth co A ls Q H locs C hQ hr hlocks hnm hS hP hD hl
  obtain ⟨hx, hb, hml, hown, hts, hK, hA, hE⟩ := id C
  have hl : lv_has ls 1 [(0, .int x)] := hl
  refine lv_iload_n hx hb dX9_isNamePart_0 rfl (lv_at hl 0 rfl) ?_
  refine za_ci (wc := []) (wr := []) C hP hD hS [] [] rfl rfl (by decide) (by decide) (za_runS C hP hD hS [] rfl (by decide) rfl (kX9_isLetter l g E x ) w_441 mX9_isLetter rfl hl.1 rfl (Nat.le_of_ble_eq_true rfl) dX9_isNamePart_1 ⟨Nat.le_of_ble_eq_true rfl, Nat.le_of_ble_eq_true rfl⟩ ⟨Nat.le_refl _, Nat.le_refl _⟩) (fun r1 _ H locs hr1 hP hD hS => ?_)
  subst hr1
  refine lv_if_ne (tgt := 14) hx hb dX9_isNamePart_4 (by decide) (fun c_4 => ?_) (fun c_4 => ?_)
  · refine lv_iconst (v := 1) hx hb dX9_isNamePart_14 (by decide) ?_
    refine lv_goto (tgt := 19) hx hb dX9_isNamePart_15 (by decide) ?_
    exact zm_rn hQ hx hb hr hlocks hK hP hD hS rfl (by simp [zk_isPart, zq_upd, c_4]) dX9_isNamePart_19
  · refine lv_iload_n hx hb dX9_isNamePart_7 rfl (lv_at hl 0 rfl) ?_
    refine za_ci (wc := []) (wr := []) C hP hD hS [] [] rfl rfl (by decide) (by decide) (za_runS C hP hD hS [] rfl (by decide) rfl (kX9_isDigit l g E x ) w_442 mX9_isDigit rfl hl.1 rfl (Nat.le_of_ble_eq_true rfl) dX9_isNamePart_8 ⟨Nat.le_of_ble_eq_true rfl, Nat.le_of_ble_eq_true rfl⟩ ⟨Nat.le_refl _, Nat.le_refl _⟩) (fun r2 _ H locs hr2 hP hD hS => ?_)
    subst hr2
    refine lv_if_eq (tgt := 18) hx hb dX9_isNamePart_11 (by decide) (fun c_11 => ?_) (fun c_11 => ?_)
    · refine lv_iconst (v := 0) hx hb dX9_isNamePart_18 (by decide) ?_
      exact zm_rn hQ hx hb hr hlocks hK hP hD hS rfl (by simp [zk_isPart, zq_upd, eq_true c_4, eq_true c_11]) dX9_isNamePart_19
    · refine lv_iconst (v := 1) hx hb dX9_isNamePart_14 (by decide) ?_
      refine lv_goto (tgt := 19) hx hb dX9_isNamePart_15 (by decide) ?_
      exact zm_rn hQ hx hb hr hlocks hK hP hD hS rfl (by simp [zk_isPart, zq_upd, eq_true c_4, c_11]) dX9_isNamePart_19
set_option maxHeartbeats 4000000 in
set_option maxRecDepth 100000 in
theorem kX9_holdsCode (l : Launch) (g : za_G) (E : za_E) (lo hi : Int64) : za_Ci l g E yX9_holdsCode cX9_holdsCode 4 ((some .boolean)) 0 0 0 [.long lo, .long hi] [] (fun r (_ : Unit) => r = zk_holds lo hi) (fun _ => []) := by
  refine za_begin (by decide) (Nat.le_of_ble_eq_true rfl) RX9 rfl ?_
  intro p e s m args below meth co A ls Q H locs C hQ hr hlocks hnm hS hP hD hl
  obtain ⟨hx, hb, hml, hown, hts, hK, hA, hE⟩ := id C
  have hl : lv_has ls 4 [(0, .long lo), (2, .long hi)] := hl
  refine lv_lload_n hx hb dX9_holdsCode_0 rfl (lv_at hl 0 rfl) ?_
  refine lv_ldc2 (v := 1114111) hx hb hown (hts _ w_419) dX9_holdsCode_1 ?_
  refine W.lcmp hx hb dX9_holdsCode_4 ?_
  refine lv_if_gt (tgt := 28) hx hb dX9_holdsCode_5 (by decide) (fun c_5 => ?_) (fun c_5 => ?_)
  · refine lv_iconst (v := 0) hx hb dX9_holdsCode_28 (by decide) ?_
    exact zm_rn hQ hx hb hr hlocks hK hP hD hS rfl (by simp [zk_holds, zq_upd, c_5]) dX9_holdsCode_29
  · refine lv_lload_n hx hb dX9_holdsCode_8 rfl (lv_at hl 0 rfl) ?_
    refine lv_ldc2 (v := 55296) hx hb hown (hts _ w_420) dX9_holdsCode_9 ?_
    refine W.lcmp hx hb dX9_holdsCode_12 ?_
    refine lv_if_lt (tgt := 24) hx hb dX9_holdsCode_13 (by decide) (fun c_13 => ?_) (fun c_13 => ?_)
    · refine lv_iconst (v := 1) hx hb dX9_holdsCode_24 (by decide) ?_
      refine lv_goto (tgt := 29) hx hb dX9_holdsCode_25 (by decide) ?_
      exact zm_rn hQ hx hb hr hlocks hK hP hD hS rfl (by simp [zk_holds, zq_upd, c_5, c_13]) dX9_holdsCode_29
    · refine lv_lload_n hx hb dX9_holdsCode_16 rfl (lv_at hl 1 rfl) ?_
      refine lv_ldc2 (v := 57343) hx hb hown (hts _ w_421) dX9_holdsCode_17 ?_
      refine W.lcmp hx hb dX9_holdsCode_20 ?_
      refine za_if_le (tgt := 28) hx hb dX9_holdsCode_21 (by decide) (fun c_21 => ?_) (fun c_21 => ?_)
      · refine lv_iconst (v := 0) hx hb dX9_holdsCode_28 (by decide) ?_
        exact zm_rn hQ hx hb hr hlocks hK hP hD hS rfl (by simp [zk_holds, zq_upd, c_5, c_13, c_21]) dX9_holdsCode_29
      · refine lv_iconst (v := 1) hx hb dX9_holdsCode_24 (by decide) ?_
        refine lv_goto (tgt := 29) hx hb dX9_holdsCode_25 (by decide) ?_
        exact zm_rn hQ hx hb hr hlocks hK hP hD hS rfl (by simp [zk_holds, zq_upd, c_5, c_13, c_21]) dX9_holdsCode_29
set_option maxHeartbeats 4000000 in
set_option maxRecDepth 100000 in
theorem kX9_digitOf (l : Launch) (g : za_G) (E : za_E) (x b : Int32) : za_Ci l g E yX9_digitOf cX9_digitOf 3 ((some .int)) 0 0 0 [.int x, .int b] [] (fun r (_ : Unit) => r = zk_digitOf x b) (fun _ => []) := by
  refine za_begin (by decide) (Nat.le_of_ble_eq_true rfl) RX9 rfl ?_
  intro p e s m args below meth co A ls Q H locs C hQ hr hlocks hnm hS hP hD hl
  obtain ⟨hx, hb, hml, hown, hts, hK, hA, hE⟩ := id C
  have hl : lv_has ls 3 [(0, .int x), (1, .int b)] := hl
  refine lv_iconst (v := (-1)) hx hb dX9_digitOf_0 (by decide) ?_
  refine lv_istore_n (lv' := [(2, .int (-1)), (0, .int x), (1, .int b)]) hx hb dX9_digitOf_1 rfl hl (by decide) rfl (fun ls hl => ?_)
  refine lv_iload_n hx hb dX9_digitOf_2 rfl (lv_at hl 1 rfl) ?_
  refine lv_bipush (v := 48) hx hb dX9_digitOf_3 (by decide) ?_
  refine lv_icmp_lt (tgt := 22) hx hb dX9_digitOf_5 (by decide) (fun c_5 => ?_) (fun c_5 => ?_)
  · refine lv_iload_n hx hb dX9_digitOf_22 rfl (lv_at hl 1 rfl) ?_
    refine lv_bipush (v := 97) hx hb dX9_digitOf_23 (by decide) ?_
    refine lv_icmp_lt (tgt := 45) hx hb dX9_digitOf_25 (by decide) (fun c_25 => ?_) (fun c_25 => ?_)
    · refine lv_iload_n hx hb dX9_digitOf_45 rfl (lv_at hl 1 rfl) ?_
      refine lv_bipush (v := 65) hx hb dX9_digitOf_46 (by decide) ?_
      refine lv_icmp_lt (tgt := 65) hx hb dX9_digitOf_48 (by decide) (fun c_48 => ?_) (fun c_48 => ?_)
      · refine lv_iload_n hx hb dX9_digitOf_65 rfl (lv_at hl 0 rfl) ?_
        refine lv_iload_n hx hb dX9_digitOf_66 rfl (lv_at hl 2 rfl) ?_
        refine za_icmp_ge (tgt := 74) hx hb dX9_digitOf_67 (by decide) (fun c_67 => ?_) (fun c_67 => ?_)
        · refine lv_iconst (v := (-1)) hx hb dX9_digitOf_74 (by decide) ?_
          exact zm_rn hQ hx hb hr hlocks hK hP hD hS rfl (by simp [zk_digitOf, zk_worth, zq_upd, c_5, c_25, c_48, c_67]) dX9_digitOf_75
        · refine lv_iload_n hx hb dX9_digitOf_70 rfl (lv_at hl 0 rfl) ?_
          refine lv_goto (tgt := 75) hx hb dX9_digitOf_71 (by decide) ?_
          exact zm_rn hQ hx hb hr hlocks hK hP hD hS rfl (by simp [zk_digitOf, zk_worth, zq_upd, c_5, c_25, c_48, c_67]) dX9_digitOf_75
      · refine lv_iload_n hx hb dX9_digitOf_51 rfl (lv_at hl 1 rfl) ?_
        refine lv_bipush (v := 70) hx hb dX9_digitOf_52 (by decide) ?_
        refine lv_icmp_gt (tgt := 65) hx hb dX9_digitOf_54 (by decide) (fun c_54 => ?_) (fun c_54 => ?_)
        · refine lv_iload_n hx hb dX9_digitOf_65 rfl (lv_at hl 0 rfl) ?_
          refine lv_iload_n hx hb dX9_digitOf_66 rfl (lv_at hl 2 rfl) ?_
          refine za_icmp_ge (tgt := 74) hx hb dX9_digitOf_67 (by decide) (fun c_67 => ?_) (fun c_67 => ?_)
          · refine lv_iconst (v := (-1)) hx hb dX9_digitOf_74 (by decide) ?_
            exact zm_rn hQ hx hb hr hlocks hK hP hD hS rfl (by simp [zk_digitOf, zk_worth, zq_upd, c_5, c_25, c_48, c_54, c_67]) dX9_digitOf_75
          · refine lv_iload_n hx hb dX9_digitOf_70 rfl (lv_at hl 0 rfl) ?_
            refine lv_goto (tgt := 75) hx hb dX9_digitOf_71 (by decide) ?_
            exact zm_rn hQ hx hb hr hlocks hK hP hD hS rfl (by simp [zk_digitOf, zk_worth, zq_upd, c_5, c_25, c_48, c_54, c_67]) dX9_digitOf_75
        · refine lv_iload_n hx hb dX9_digitOf_57 rfl (lv_at hl 1 rfl) ?_
          refine lv_bipush (v := 65) hx hb dX9_digitOf_58 (by decide) ?_
          refine lv_isub hx hb dX9_digitOf_60 ?_
          refine lv_bipush (v := 10) hx hb dX9_digitOf_61 (by decide) ?_
          refine lv_iadd hx hb dX9_digitOf_63 ?_
          refine lv_istore_n (lv' := [(2, .int ((x - 65) + 10)), (0, .int x), (1, .int b)]) hx hb dX9_digitOf_64 rfl hl (by decide) rfl (fun ls hl => ?_)
          refine lv_iload_n hx hb dX9_digitOf_65 rfl (lv_at hl 0 rfl) ?_
          refine lv_iload_n hx hb dX9_digitOf_66 rfl (lv_at hl 2 rfl) ?_
          refine za_icmp_ge (tgt := 74) hx hb dX9_digitOf_67 (by decide) (fun c_67 => ?_) (fun c_67 => ?_)
          · refine lv_iconst (v := (-1)) hx hb dX9_digitOf_74 (by decide) ?_
            exact zm_rn hQ hx hb hr hlocks hK hP hD hS rfl (by simp [zk_digitOf, zk_worth, zq_upd, c_5, c_25, c_48, c_54, c_67]) dX9_digitOf_75
          · refine lv_iload_n hx hb dX9_digitOf_70 rfl (lv_at hl 0 rfl) ?_
            refine lv_goto (tgt := 75) hx hb dX9_digitOf_71 (by decide) ?_
            exact zm_rn hQ hx hb hr hlocks hK hP hD hS rfl (by simp [zk_digitOf, zk_worth, zq_upd, c_5, c_25, c_48, c_54, c_67]) dX9_digitOf_75
    · refine lv_iload_n hx hb dX9_digitOf_28 rfl (lv_at hl 1 rfl) ?_
      refine lv_bipush (v := 102) hx hb dX9_digitOf_29 (by decide) ?_
      refine lv_icmp_gt (tgt := 45) hx hb dX9_digitOf_31 (by decide) (fun c_31 => ?_) (fun c_31 => ?_)
      · refine lv_iload_n hx hb dX9_digitOf_45 rfl (lv_at hl 1 rfl) ?_
        refine lv_bipush (v := 65) hx hb dX9_digitOf_46 (by decide) ?_
        refine lv_icmp_lt (tgt := 65) hx hb dX9_digitOf_48 (by decide) (fun c_48 => ?_) (fun c_48 => ?_)
        · refine lv_iload_n hx hb dX9_digitOf_65 rfl (lv_at hl 0 rfl) ?_
          refine lv_iload_n hx hb dX9_digitOf_66 rfl (lv_at hl 2 rfl) ?_
          refine za_icmp_ge (tgt := 74) hx hb dX9_digitOf_67 (by decide) (fun c_67 => ?_) (fun c_67 => ?_)
          · refine lv_iconst (v := (-1)) hx hb dX9_digitOf_74 (by decide) ?_
            exact zm_rn hQ hx hb hr hlocks hK hP hD hS rfl (by simp [zk_digitOf, zk_worth, zq_upd, c_5, c_25, c_31, c_48, c_67]) dX9_digitOf_75
          · refine lv_iload_n hx hb dX9_digitOf_70 rfl (lv_at hl 0 rfl) ?_
            refine lv_goto (tgt := 75) hx hb dX9_digitOf_71 (by decide) ?_
            exact zm_rn hQ hx hb hr hlocks hK hP hD hS rfl (by simp [zk_digitOf, zk_worth, zq_upd, c_5, c_25, c_31, c_48, c_67]) dX9_digitOf_75
        · refine lv_iload_n hx hb dX9_digitOf_51 rfl (lv_at hl 1 rfl) ?_
          refine lv_bipush (v := 70) hx hb dX9_digitOf_52 (by decide) ?_
          refine lv_icmp_gt (tgt := 65) hx hb dX9_digitOf_54 (by decide) (fun c_54 => ?_) (fun c_54 => ?_)
          · refine lv_iload_n hx hb dX9_digitOf_65 rfl (lv_at hl 0 rfl) ?_
            refine lv_iload_n hx hb dX9_digitOf_66 rfl (lv_at hl 2 rfl) ?_
            refine za_icmp_ge (tgt := 74) hx hb dX9_digitOf_67 (by decide) (fun c_67 => ?_) (fun c_67 => ?_)
            · refine lv_iconst (v := (-1)) hx hb dX9_digitOf_74 (by decide) ?_
              exact zm_rn hQ hx hb hr hlocks hK hP hD hS rfl (by simp [zk_digitOf, zk_worth, zq_upd, c_5, c_25, c_31, c_48, c_54, c_67]) dX9_digitOf_75
            · refine lv_iload_n hx hb dX9_digitOf_70 rfl (lv_at hl 0 rfl) ?_
              refine lv_goto (tgt := 75) hx hb dX9_digitOf_71 (by decide) ?_
              exact zm_rn hQ hx hb hr hlocks hK hP hD hS rfl (by simp [zk_digitOf, zk_worth, zq_upd, c_5, c_25, c_31, c_48, c_54, c_67]) dX9_digitOf_75
          · refine lv_iload_n hx hb dX9_digitOf_57 rfl (lv_at hl 1 rfl) ?_
            refine lv_bipush (v := 65) hx hb dX9_digitOf_58 (by decide) ?_
            refine lv_isub hx hb dX9_digitOf_60 ?_
            refine lv_bipush (v := 10) hx hb dX9_digitOf_61 (by decide) ?_
            refine lv_iadd hx hb dX9_digitOf_63 ?_
            refine lv_istore_n (lv' := [(2, .int ((x - 65) + 10)), (0, .int x), (1, .int b)]) hx hb dX9_digitOf_64 rfl hl (by decide) rfl (fun ls hl => ?_)
            refine lv_iload_n hx hb dX9_digitOf_65 rfl (lv_at hl 0 rfl) ?_
            refine lv_iload_n hx hb dX9_digitOf_66 rfl (lv_at hl 2 rfl) ?_
            refine za_icmp_ge (tgt := 74) hx hb dX9_digitOf_67 (by decide) (fun c_67 => ?_) (fun c_67 => ?_)
            · refine lv_iconst (v := (-1)) hx hb dX9_digitOf_74 (by decide) ?_
              exact zm_rn hQ hx hb hr hlocks hK hP hD hS rfl (by simp [zk_digitOf, zk_worth, zq_upd, c_5, c_25, c_31, c_48, c_54, c_67]) dX9_digitOf_75
            · refine lv_iload_n hx hb dX9_digitOf_70 rfl (lv_at hl 0 rfl) ?_
              refine lv_goto (tgt := 75) hx hb dX9_digitOf_71 (by decide) ?_
              exact zm_rn hQ hx hb hr hlocks hK hP hD hS rfl (by simp [zk_digitOf, zk_worth, zq_upd, c_5, c_25, c_31, c_48, c_54, c_67]) dX9_digitOf_75
      · refine lv_iload_n hx hb dX9_digitOf_34 rfl (lv_at hl 1 rfl) ?_
        refine lv_bipush (v := 97) hx hb dX9_digitOf_35 (by decide) ?_
        refine lv_isub hx hb dX9_digitOf_37 ?_
        refine lv_bipush (v := 10) hx hb dX9_digitOf_38 (by decide) ?_
        refine lv_iadd hx hb dX9_digitOf_40 ?_
        refine lv_istore_n (lv' := [(2, .int ((x - 97) + 10)), (0, .int x), (1, .int b)]) hx hb dX9_digitOf_41 rfl hl (by decide) rfl (fun ls hl => ?_)
        refine lv_goto (tgt := 65) hx hb dX9_digitOf_42 (by decide) ?_
        refine lv_iload_n hx hb dX9_digitOf_65 rfl (lv_at hl 0 rfl) ?_
        refine lv_iload_n hx hb dX9_digitOf_66 rfl (lv_at hl 2 rfl) ?_
        refine za_icmp_ge (tgt := 74) hx hb dX9_digitOf_67 (by decide) (fun c_67 => ?_) (fun c_67 => ?_)
        · refine lv_iconst (v := (-1)) hx hb dX9_digitOf_74 (by decide) ?_
          exact zm_rn hQ hx hb hr hlocks hK hP hD hS rfl (by simp [zk_digitOf, zk_worth, zq_upd, c_5, c_25, c_31, c_67]) dX9_digitOf_75
        · refine lv_iload_n hx hb dX9_digitOf_70 rfl (lv_at hl 0 rfl) ?_
          refine lv_goto (tgt := 75) hx hb dX9_digitOf_71 (by decide) ?_
          exact zm_rn hQ hx hb hr hlocks hK hP hD hS rfl (by simp [zk_digitOf, zk_worth, zq_upd, c_5, c_25, c_31, c_67]) dX9_digitOf_75
  · refine lv_iload_n hx hb dX9_digitOf_8 rfl (lv_at hl 1 rfl) ?_
    refine lv_bipush (v := 57) hx hb dX9_digitOf_9 (by decide) ?_
    refine lv_icmp_gt (tgt := 22) hx hb dX9_digitOf_11 (by decide) (fun c_11 => ?_) (fun c_11 => ?_)
    · refine lv_iload_n hx hb dX9_digitOf_22 rfl (lv_at hl 1 rfl) ?_
      refine lv_bipush (v := 97) hx hb dX9_digitOf_23 (by decide) ?_
      refine lv_icmp_lt (tgt := 45) hx hb dX9_digitOf_25 (by decide) (fun c_25 => ?_) (fun c_25 => ?_)
      · refine lv_iload_n hx hb dX9_digitOf_45 rfl (lv_at hl 1 rfl) ?_
        refine lv_bipush (v := 65) hx hb dX9_digitOf_46 (by decide) ?_
        refine lv_icmp_lt (tgt := 65) hx hb dX9_digitOf_48 (by decide) (fun c_48 => ?_) (fun c_48 => ?_)
        · refine lv_iload_n hx hb dX9_digitOf_65 rfl (lv_at hl 0 rfl) ?_
          refine lv_iload_n hx hb dX9_digitOf_66 rfl (lv_at hl 2 rfl) ?_
          refine za_icmp_ge (tgt := 74) hx hb dX9_digitOf_67 (by decide) (fun c_67 => ?_) (fun c_67 => ?_)
          · refine lv_iconst (v := (-1)) hx hb dX9_digitOf_74 (by decide) ?_
            exact zm_rn hQ hx hb hr hlocks hK hP hD hS rfl (by simp [zk_digitOf, zk_worth, zq_upd, c_5, c_11, c_25, c_48, c_67]) dX9_digitOf_75
          · refine lv_iload_n hx hb dX9_digitOf_70 rfl (lv_at hl 0 rfl) ?_
            refine lv_goto (tgt := 75) hx hb dX9_digitOf_71 (by decide) ?_
            exact zm_rn hQ hx hb hr hlocks hK hP hD hS rfl (by simp [zk_digitOf, zk_worth, zq_upd, c_5, c_11, c_25, c_48, c_67]) dX9_digitOf_75
        · refine lv_iload_n hx hb dX9_digitOf_51 rfl (lv_at hl 1 rfl) ?_
          refine lv_bipush (v := 70) hx hb dX9_digitOf_52 (by decide) ?_
          refine lv_icmp_gt (tgt := 65) hx hb dX9_digitOf_54 (by decide) (fun c_54 => ?_) (fun c_54 => ?_)
          · refine lv_iload_n hx hb dX9_digitOf_65 rfl (lv_at hl 0 rfl) ?_
            refine lv_iload_n hx hb dX9_digitOf_66 rfl (lv_at hl 2 rfl) ?_
            refine za_icmp_ge (tgt := 74) hx hb dX9_digitOf_67 (by decide) (fun c_67 => ?_) (fun c_67 => ?_)
            · refine lv_iconst (v := (-1)) hx hb dX9_digitOf_74 (by decide) ?_
              exact zm_rn hQ hx hb hr hlocks hK hP hD hS rfl (by simp [zk_digitOf, zk_worth, zq_upd, c_5, c_11, c_25, c_48, c_54, c_67]) dX9_digitOf_75
            · refine lv_iload_n hx hb dX9_digitOf_70 rfl (lv_at hl 0 rfl) ?_
              refine lv_goto (tgt := 75) hx hb dX9_digitOf_71 (by decide) ?_
              exact zm_rn hQ hx hb hr hlocks hK hP hD hS rfl (by simp [zk_digitOf, zk_worth, zq_upd, c_5, c_11, c_25, c_48, c_54, c_67]) dX9_digitOf_75
          · refine lv_iload_n hx hb dX9_digitOf_57 rfl (lv_at hl 1 rfl) ?_
            refine lv_bipush (v := 65) hx hb dX9_digitOf_58 (by decide) ?_
            refine lv_isub hx hb dX9_digitOf_60 ?_
            refine lv_bipush (v := 10) hx hb dX9_digitOf_61 (by decide) ?_
            refine lv_iadd hx hb dX9_digitOf_63 ?_
            refine lv_istore_n (lv' := [(2, .int ((x - 65) + 10)), (0, .int x), (1, .int b)]) hx hb dX9_digitOf_64 rfl hl (by decide) rfl (fun ls hl => ?_)
            refine lv_iload_n hx hb dX9_digitOf_65 rfl (lv_at hl 0 rfl) ?_
            refine lv_iload_n hx hb dX9_digitOf_66 rfl (lv_at hl 2 rfl) ?_
            refine za_icmp_ge (tgt := 74) hx hb dX9_digitOf_67 (by decide) (fun c_67 => ?_) (fun c_67 => ?_)
            · refine lv_iconst (v := (-1)) hx hb dX9_digitOf_74 (by decide) ?_
              exact zm_rn hQ hx hb hr hlocks hK hP hD hS rfl (by simp [zk_digitOf, zk_worth, zq_upd, c_5, c_11, c_25, c_48, c_54, c_67]) dX9_digitOf_75
            · refine lv_iload_n hx hb dX9_digitOf_70 rfl (lv_at hl 0 rfl) ?_
              refine lv_goto (tgt := 75) hx hb dX9_digitOf_71 (by decide) ?_
              exact zm_rn hQ hx hb hr hlocks hK hP hD hS rfl (by simp [zk_digitOf, zk_worth, zq_upd, c_5, c_11, c_25, c_48, c_54, c_67]) dX9_digitOf_75
      · refine lv_iload_n hx hb dX9_digitOf_28 rfl (lv_at hl 1 rfl) ?_
        refine lv_bipush (v := 102) hx hb dX9_digitOf_29 (by decide) ?_
        refine lv_icmp_gt (tgt := 45) hx hb dX9_digitOf_31 (by decide) (fun c_31 => ?_) (fun c_31 => ?_)
        · refine lv_iload_n hx hb dX9_digitOf_45 rfl (lv_at hl 1 rfl) ?_
          refine lv_bipush (v := 65) hx hb dX9_digitOf_46 (by decide) ?_
          refine lv_icmp_lt (tgt := 65) hx hb dX9_digitOf_48 (by decide) (fun c_48 => ?_) (fun c_48 => ?_)
          · refine lv_iload_n hx hb dX9_digitOf_65 rfl (lv_at hl 0 rfl) ?_
            refine lv_iload_n hx hb dX9_digitOf_66 rfl (lv_at hl 2 rfl) ?_
            refine za_icmp_ge (tgt := 74) hx hb dX9_digitOf_67 (by decide) (fun c_67 => ?_) (fun c_67 => ?_)
            · refine lv_iconst (v := (-1)) hx hb dX9_digitOf_74 (by decide) ?_
              exact zm_rn hQ hx hb hr hlocks hK hP hD hS rfl (by simp [zk_digitOf, zk_worth, zq_upd, c_5, c_11, c_25, c_31, c_48, c_67]) dX9_digitOf_75
            · refine lv_iload_n hx hb dX9_digitOf_70 rfl (lv_at hl 0 rfl) ?_
              refine lv_goto (tgt := 75) hx hb dX9_digitOf_71 (by decide) ?_
              exact zm_rn hQ hx hb hr hlocks hK hP hD hS rfl (by simp [zk_digitOf, zk_worth, zq_upd, c_5, c_11, c_25, c_31, c_48, c_67]) dX9_digitOf_75
          · refine lv_iload_n hx hb dX9_digitOf_51 rfl (lv_at hl 1 rfl) ?_
            refine lv_bipush (v := 70) hx hb dX9_digitOf_52 (by decide) ?_
            refine lv_icmp_gt (tgt := 65) hx hb dX9_digitOf_54 (by decide) (fun c_54 => ?_) (fun c_54 => ?_)
            · refine lv_iload_n hx hb dX9_digitOf_65 rfl (lv_at hl 0 rfl) ?_
              refine lv_iload_n hx hb dX9_digitOf_66 rfl (lv_at hl 2 rfl) ?_
              refine za_icmp_ge (tgt := 74) hx hb dX9_digitOf_67 (by decide) (fun c_67 => ?_) (fun c_67 => ?_)
              · refine lv_iconst (v := (-1)) hx hb dX9_digitOf_74 (by decide) ?_
                exact zm_rn hQ hx hb hr hlocks hK hP hD hS rfl (by simp [zk_digitOf, zk_worth, zq_upd, c_5, c_11, c_25, c_31, c_48, c_54, c_67]) dX9_digitOf_75
              · refine lv_iload_n hx hb dX9_digitOf_70 rfl (lv_at hl 0 rfl) ?_
                refine lv_goto (tgt := 75) hx hb dX9_digitOf_71 (by decide) ?_
                exact zm_rn hQ hx hb hr hlocks hK hP hD hS rfl (by simp [zk_digitOf, zk_worth, zq_upd, c_5, c_11, c_25, c_31, c_48, c_54, c_67]) dX9_digitOf_75
            · refine lv_iload_n hx hb dX9_digitOf_57 rfl (lv_at hl 1 rfl) ?_
              refine lv_bipush (v := 65) hx hb dX9_digitOf_58 (by decide) ?_
              refine lv_isub hx hb dX9_digitOf_60 ?_
              refine lv_bipush (v := 10) hx hb dX9_digitOf_61 (by decide) ?_
              refine lv_iadd hx hb dX9_digitOf_63 ?_
              refine lv_istore_n (lv' := [(2, .int ((x - 65) + 10)), (0, .int x), (1, .int b)]) hx hb dX9_digitOf_64 rfl hl (by decide) rfl (fun ls hl => ?_)
              refine lv_iload_n hx hb dX9_digitOf_65 rfl (lv_at hl 0 rfl) ?_
              refine lv_iload_n hx hb dX9_digitOf_66 rfl (lv_at hl 2 rfl) ?_
              refine za_icmp_ge (tgt := 74) hx hb dX9_digitOf_67 (by decide) (fun c_67 => ?_) (fun c_67 => ?_)
              · refine lv_iconst (v := (-1)) hx hb dX9_digitOf_74 (by decide) ?_
                exact zm_rn hQ hx hb hr hlocks hK hP hD hS rfl (by simp [zk_digitOf, zk_worth, zq_upd, c_5, c_11, c_25, c_31, c_48, c_54, c_67]) dX9_digitOf_75
              · refine lv_iload_n hx hb dX9_digitOf_70 rfl (lv_at hl 0 rfl) ?_
                refine lv_goto (tgt := 75) hx hb dX9_digitOf_71 (by decide) ?_
                exact zm_rn hQ hx hb hr hlocks hK hP hD hS rfl (by simp [zk_digitOf, zk_worth, zq_upd, c_5, c_11, c_25, c_31, c_48, c_54, c_67]) dX9_digitOf_75
        · refine lv_iload_n hx hb dX9_digitOf_34 rfl (lv_at hl 1 rfl) ?_
          refine lv_bipush (v := 97) hx hb dX9_digitOf_35 (by decide) ?_
          refine lv_isub hx hb dX9_digitOf_37 ?_
          refine lv_bipush (v := 10) hx hb dX9_digitOf_38 (by decide) ?_
          refine lv_iadd hx hb dX9_digitOf_40 ?_
          refine lv_istore_n (lv' := [(2, .int ((x - 97) + 10)), (0, .int x), (1, .int b)]) hx hb dX9_digitOf_41 rfl hl (by decide) rfl (fun ls hl => ?_)
          refine lv_goto (tgt := 65) hx hb dX9_digitOf_42 (by decide) ?_
          refine lv_iload_n hx hb dX9_digitOf_65 rfl (lv_at hl 0 rfl) ?_
          refine lv_iload_n hx hb dX9_digitOf_66 rfl (lv_at hl 2 rfl) ?_
          refine za_icmp_ge (tgt := 74) hx hb dX9_digitOf_67 (by decide) (fun c_67 => ?_) (fun c_67 => ?_)
          · refine lv_iconst (v := (-1)) hx hb dX9_digitOf_74 (by decide) ?_
            exact zm_rn hQ hx hb hr hlocks hK hP hD hS rfl (by simp [zk_digitOf, zk_worth, zq_upd, c_5, c_11, c_25, c_31, c_67]) dX9_digitOf_75
          · refine lv_iload_n hx hb dX9_digitOf_70 rfl (lv_at hl 0 rfl) ?_
            refine lv_goto (tgt := 75) hx hb dX9_digitOf_71 (by decide) ?_
            exact zm_rn hQ hx hb hr hlocks hK hP hD hS rfl (by simp [zk_digitOf, zk_worth, zq_upd, c_5, c_11, c_25, c_31, c_67]) dX9_digitOf_75
    · refine lv_iload_n hx hb dX9_digitOf_14 rfl (lv_at hl 1 rfl) ?_
      refine lv_bipush (v := 48) hx hb dX9_digitOf_15 (by decide) ?_
      refine lv_isub hx hb dX9_digitOf_17 ?_
      refine lv_istore_n (lv' := [(2, .int (x - 48)), (0, .int x), (1, .int b)]) hx hb dX9_digitOf_18 rfl hl (by decide) rfl (fun ls hl => ?_)
      refine lv_goto (tgt := 65) hx hb dX9_digitOf_19 (by decide) ?_
      refine lv_iload_n hx hb dX9_digitOf_65 rfl (lv_at hl 0 rfl) ?_
      refine lv_iload_n hx hb dX9_digitOf_66 rfl (lv_at hl 2 rfl) ?_
      refine za_icmp_ge (tgt := 74) hx hb dX9_digitOf_67 (by decide) (fun c_67 => ?_) (fun c_67 => ?_)
      · refine lv_iconst (v := (-1)) hx hb dX9_digitOf_74 (by decide) ?_
        exact zm_rn hQ hx hb hr hlocks hK hP hD hS rfl (by simp [zk_digitOf, zk_worth, zq_upd, c_5, c_11, c_67]) dX9_digitOf_75
      · refine lv_iload_n hx hb dX9_digitOf_70 rfl (lv_at hl 0 rfl) ?_
        refine lv_goto (tgt := 75) hx hb dX9_digitOf_71 (by decide) ?_
        exact zm_rn hQ hx hb hr hlocks hK hP hD hS rfl (by simp [zk_digitOf, zk_worth, zq_upd, c_5, c_11, c_67]) dX9_digitOf_75
set_option maxHeartbeats 4000000 in
set_option maxRecDepth 100000 in
theorem kX7_here (l : Launch) (g : za_G) (E : za_E) (o d : Nat → Nat) (N : zc_N)  (hI : zc_I N) : za_Ci l g E yX7_here cX7_here 1 ((some .int)) 0 0 0 [.ref (o 6)] (zc_ws g o d N) (fun r (_ : Unit) => r = zk_here N) (fun _ => zc_ws g o d N) := by
  refine za_begin (by decide) (Nat.le_of_ble_eq_true rfl) RX7 rfl ?_
  intro p e s m args below meth co A ls Q H locs C hQ hr hlocks hnm hS hP hD hl
  obtain ⟨hx, hb, hml, hown, hts, hK, hA, hE⟩ := id C
  have hl : lv_has ls 1 [(0, .ref (o 6))] := hl
  refine lv_aload_n hx hb dX7_here_0 rfl (lv_at hl 0 rfl) ?_
  refine va_get (ci := 6) (v := .int (N.1 62)) hx hb hts iX7 hown hK hP 6 rfl rfl 2 (by decide) (hts _ w_96) (fun _ h9 => h9) rfl dX7_here_1 ?_
  refine lv_if_lt (tgt := 46) hx hb dX7_here_4 (by decide) (fun c_4 => ?_) (fun c_4 => ?_)
  · refine lv_iconst (v := (-1)) hx hb dX7_here_46 (by decide) ?_
    exact zc_ri hQ hx hb hr hlocks hK hP hD hS rfl (by simp [zk_here, zq_upd, c_4]) (Nat.le_refl _) (Nat.le_refl _) dX7_here_47
  · refine lv_aload_n hx hb dX7_here_7 rfl (lv_at hl 0 rfl) ?_
    refine va_get (ci := 6) (v := .int (N.1 62)) hx hb hts iX7 hown hK hP 6 rfl rfl 2 (by decide) (hts _ w_96) (fun _ h9 => h9) rfl dX7_here_8 ?_
    refine lv_aload_n hx hb dX7_here_11 rfl (lv_at hl 0 rfl) ?_
    refine va_get (ci := 6) (v := .int (N.1 61)) hx hb hts iX7 hown hK hP 6 rfl rfl 1 (by decide) (hts _ w_94) (fun _ h9 => h9) rfl dX7_here_12 ?_
    refine za_icmp_ge (tgt := 46) hx hb dX7_here_15 (by decide) (fun c_15 => ?_) (fun c_15 => ?_)
    · refine lv_iconst (v := (-1)) hx hb dX7_here_46 (by decide) ?_
      exact zc_ri hQ hx hb hr hlocks hK hP hD hS rfl (by simp [zk_here, zq_upd, c_4, c_15]) (Nat.le_refl _) (Nat.le_refl _) dX7_here_47
    · refine lv_aload_n hx hb dX7_here_18 rfl (lv_at hl 0 rfl) ?_
      refine va_get (ci := 6) (v := .int (N.1 62)) hx hb hts iX7 hown hK hP 6 rfl rfl 2 (by decide) (hts _ w_96) (fun _ h9 => h9) rfl dX7_here_19 ?_
      refine lv_aload_n hx hb dX7_here_22 rfl (lv_at hl 0 rfl) ?_
      refine va_get (ci := 6) (v := .ref (d 60)) hx hb hts iX7 hown hK hP 6 rfl rfl 0 (by decide) (hts _ w_93) (fun _ h9 => h9) rfl dX7_here_23 ?_
      refine va_alen (v := nI (N.2.2.2 60)) hx hb hK hP 15 0 rfl rfl rfl dX7_here_26 ?_
      refine za_icmp_ge (tgt := 46) hx hb dX7_here_27 (by decide) (fun c_27 => ?_) (fun c_27 => ?_)
      · exact absurd (zk_inlt (by obtain ⟨z, hz1, hz2⟩ := hI.2.1; rw [hz1] at c_15; exact zk_in c_4 c_15 hz2 (by have := (zc_len hI 60 (by decide)).2; omega)) (by have := (zc_len hI 60 (by decide)).2; omega)) c_27
      · refine lv_aload_n hx hb dX7_here_30 rfl (lv_at hl 0 rfl) ?_
        refine va_get (ci := 6) (v := .ref (d 60)) hx hb hts iX7 hown hK hP 6 rfl rfl 0 (by decide) (hts _ w_93) (fun _ h9 => h9) rfl dX7_here_31 ?_
        refine lv_aload_n hx hb dX7_here_34 rfl (lv_at hl 0 rfl) ?_
        refine va_get (ci := 6) (v := .int (N.1 62)) hx hb hts iX7 hown hK hP 6 rfl rfl 2 (by decide) (hts _ w_96) (fun _ h9 => h9) rfl dX7_here_35 ?_
        refine va_bald (f := N.2.1 60) hx hb hK hP 15 0 rfl rfl (by obtain ⟨z, hz1, hz2⟩ := hI.2.1; rw [hz1] at c_15; exact zk_in c_4 c_15 hz2 (by have := (zc_len hI 60 (by decide)).2; omega)) dX7_here_38 ?_
        refine lv_sipush (v := 255) hx hb dX7_here_39 (by decide) ?_
        refine lv_iand hx hb dX7_here_42 ?_
        refine lv_goto (tgt := 47) hx hb dX7_here_43 (by decide) ?_
        exact zc_ri hQ hx hb hr hlocks hK hP hD hS rfl (by simp [zk_here, zq_upd, c_4, c_15, c_27]) (Nat.le_refl _) (Nat.le_refl _) dX7_here_47
set_option maxHeartbeats 4000000 in
set_option maxRecDepth 100000 in
theorem kX7_refuse (l : Launch) (g : za_G) (E : za_E) (o d : Nat → Nat) (N : zc_N)  (hI : zc_I N) : za_Ci l g E yX7_refuse cX7_refuse 1 ((some .int)) 0 0 0 [.ref (o 6)] (zc_ws g o d N) (fun r (u : zc_N) => r = -1 ∧ u = zc_refuse N) (fun u => zc_ws g o d u) := by
  refine za_begin (by decide) (Nat.le_of_ble_eq_true rfl) RX7 rfl ?_
  intro p e s m args below meth co A ls Q H locs C hQ hr hlocks hnm hS hP hD hl
  obtain ⟨hx, hb, hml, hown, hts, hK, hA, hE⟩ := id C
  have hl : lv_has ls 1 [(0, .ref (o 6))] := hl
  refine lv_aload_n hx hb dX7_refuse_0 rfl (lv_at hl 0 rfl) ?_
  refine lv_iconst (v := 1) hx hb dX7_refuse_1 (by decide) ?_
  refine va_put (ci := 6) (fs := zc_f6 o d N.1) (v := .int 1) hx hb hts iX7 tyX7 tyX7_ok nmX7 hown hK hP hD hS 6 rfl rfl 5 (by decide) (hts _ w_102) (fun _ h9 => h9) rfl (tyX7_ok 5 (by decide)) rfl rfl (Nat.le_of_ble_eq_true rfl) dX7_refuse_2 (fun H locs hP hD hS => ?_)
  have hP := zc_pf65 (X := N) hP
  have hD := zc_df65 (X := N) hD
  have hI : zc_I (zc_s N 65 1) := hI
  refine lv_iconst (v := (-1)) hx hb dX7_refuse_5 (by decide) ?_
  exact zc_riw hQ hx hb hr hlocks hK hP hD hS rfl (by first | rfl | simp [zc_refuse, zq_upd]) (by first | rfl | simp [zc_refuse, zq_upd]) (Nat.le_refl _) (Nat.le_refl _) dX7_refuse_6
set_option maxHeartbeats 4000000 in
set_option maxRecDepth 100000 in
theorem kX7_refuseAt (l : Launch) (g : za_G) (E : za_E) (o d : Nat → Nat) (N : zc_N) (q : Int32) (hI : zc_I N) : za_Cv l g E yX7_refuseAt cX7_refuseAt 2 0 0 0 [.ref (o 6), .int q] (zc_ws g o d N) (fun u : zc_N => u = zc_refuseAt N q) (fun u => zc_ws g o d u) := by
  refine za_begin (by decide) (Nat.le_of_ble_eq_true rfl) RX7 rfl ?_
  intro p e s m args below meth co A ls Q H locs C hQ hr hlocks hnm hS hP hD hl
  obtain ⟨hx, hb, hml, hown, hts, hK, hA, hE⟩ := id C
  have hl : lv_has ls 2 [(0, .ref (o 6)), (1, .int q)] := hl
  refine lv_aload_n hx hb dX7_refuseAt_0 rfl (lv_at hl 0 rfl) ?_
  refine lv_iload_n hx hb dX7_refuseAt_1 rfl (lv_at hl 1 rfl) ?_
  refine va_put (ci := 6) (fs := zc_f6 o d N.1) (v := .int q) hx hb hts iX7 tyX7 tyX7_ok nmX7 hown hK hP hD hS 6 rfl rfl 2 (by decide) (hts _ w_96) (fun _ h9 => h9) rfl (tyX7_ok 2 (by decide)) rfl rfl (Nat.le_of_ble_eq_true rfl) dX7_refuseAt_2 (fun H locs hP hD hS => ?_)
  have hP := zc_pf62 (X := N) hP
  have hD := zc_df62 (X := N) hD
  have hI : zc_I (zc_s N 62 q) := hI
  refine lv_aload_n hx hb dX7_refuseAt_5 rfl (lv_at hl 0 rfl) ?_
  refine lv_iconst (v := 1) hx hb dX7_refuseAt_6 (by decide) ?_
  refine va_put (ci := 6) (fs := zc_f6 o d (zc_s N 62 q).1) (v := .int 1) hx hb hts iX7 tyX7 tyX7_ok nmX7 hown hK hP hD hS 6 rfl rfl 5 (by decide) (hts _ w_102) (fun _ h9 => h9) rfl (tyX7_ok 5 (by decide)) rfl rfl (Nat.le_of_ble_eq_true rfl) dX7_refuseAt_7 (fun H locs hP hD hS => ?_)
  have hP := zc_pf65 (X := zc_s N 62 q) hP
  have hD := zc_df65 (X := zc_s N 62 q) hD
  have hI : zc_I (zc_s (zc_s N 62 q) 65 1) := hI
  exact zc_rv hQ hx hb hr hlocks hK hP hD hS (by first | rfl | simp [zc_refuseAt, zq_upd]) (Nat.le_refl _) (Nat.le_refl _) dX7_refuseAt_10
set_option maxHeartbeats 4000000 in
set_option maxRecDepth 100000 in
theorem kX7_rewind (l : Launch) (g : za_G) (E : za_E) (o d : Nat → Nat) (N : zc_N)  : za_Cv l g E yX7_rewind cX7_rewind 1 0 0 0 [.ref (o 6)] (zc_ws g o d N) (fun u : zc_N => u = zc_rewind N) (fun u => zc_ws g o d u) := by
  refine za_begin (by decide) (Nat.le_of_ble_eq_true rfl) RX7 rfl ?_
  intro p e s m args below meth co A ls Q H locs C hQ hr hlocks hnm hS hP hD hl
  obtain ⟨hx, hb, hml, hown, hts, hK, hA, hE⟩ := id C
  have hl : lv_has ls 1 [(0, .ref (o 6))] := hl
  refine lv_aload_n hx hb dX7_rewind_0 rfl (lv_at hl 0 rfl) ?_
  refine lv_iconst (v := 0) hx hb dX7_rewind_1 (by decide) ?_
  refine va_put (ci := 6) (fs := zc_f6 o d N.1) (v := .int 0) hx hb hts iX7 tyX7 tyX7_ok nmX7 hown hK hP hD hS 6 rfl rfl 2 (by decide) (hts _ w_96) (fun _ h9 => h9) rfl (tyX7_ok 2 (by decide)) rfl rfl (Nat.le_of_ble_eq_true rfl) dX7_rewind_2 (fun H locs hP hD hS => ?_)
  have hP := zc_pf62 (X := N) hP
  have hD := zc_df62 (X := N) hD
  refine lv_aload_n hx hb dX7_rewind_5 rfl (lv_at hl 0 rfl) ?_
  refine lv_iconst (v := 1) hx hb dX7_rewind_6 (by decide) ?_
  refine va_put (ci := 6) (fs := zc_f6 o d (zc_s N 62 0).1) (v := .int 1) hx hb hts iX7 tyX7 tyX7_ok nmX7 hown hK hP hD hS 6 rfl rfl 3 (by decide) (hts _ w_98) (fun _ h9 => h9) rfl (tyX7_ok 3 (by decide)) rfl rfl (Nat.le_of_ble_eq_true rfl) dX7_rewind_7 (fun H locs hP hD hS => ?_)
  have hP := zc_pf63 (X := zc_s N 62 0) hP
  have hD := zc_df63 (X := zc_s N 62 0) hD
  refine lv_aload_n hx hb dX7_rewind_10 rfl (lv_at hl 0 rfl) ?_
  refine lv_iconst (v := 0) hx hb dX7_rewind_11 (by decide) ?_
  refine va_put (ci := 6) (fs := zc_f6 o d (zc_s (zc_s N 62 0) 63 1).1) (v := .int 0) hx hb hts iX7 tyX7 tyX7_ok nmX7 hown hK hP hD hS 6 rfl rfl 4 (by decide) (hts _ w_100) (fun _ h9 => h9) rfl (tyX7_ok 4 (by decide)) rfl rfl (Nat.le_of_ble_eq_true rfl) dX7_rewind_12 (fun H locs hP hD hS => ?_)
  have hP := zc_pf64 (X := zc_s (zc_s N 62 0) 63 1) hP
  have hD := zc_df64 (X := zc_s (zc_s N 62 0) 63 1) hD
  refine lv_aload_n hx hb dX7_rewind_15 rfl (lv_at hl 0 rfl) ?_
  refine lv_iconst (v := 0) hx hb dX7_rewind_16 (by decide) ?_
  refine va_put (ci := 6) (fs := zc_f6 o d (zc_s (zc_s (zc_s N 62 0) 63 1) 64 0).1) (v := .int 0) hx hb hts iX7 tyX7 tyX7_ok nmX7 hown hK hP hD hS 6 rfl rfl 5 (by decide) (hts _ w_102) (fun _ h9 => h9) rfl (tyX7_ok 5 (by decide)) rfl rfl (Nat.le_of_ble_eq_true rfl) dX7_rewind_17 (fun H locs hP hD hS => ?_)
  have hP := zc_pf65 (X := zc_s (zc_s (zc_s N 62 0) 63 1) 64 0) hP
  have hD := zc_df65 (X := zc_s (zc_s (zc_s N 62 0) 63 1) 64 0) hD
  exact zc_rv hQ hx hb hr hlocks hK hP hD hS (by first | rfl | simp [zc_rewind, zq_upd]) (Nat.le_refl _) (Nat.le_refl _) dX7_rewind_20
