theorem zs_sh_ch : ∀ j, j < 8 → zs_ch 7 (nI j) = [97, 98, 102, 110, 114, 116, 118, 92].getD j 0 := by decide +kernel
theorem zs_short_at {x : Int32} {j : Nat} (hj : j ≤ 8) (h1 : ∀ t, t < j → ¬ zs_ch 7 (nI t) = x) (h2 : j = 8 ∨ zs_ch 7 (nI j) = x) : zr_short x = nI j := by
  have g : ∀ t, t < 8 → (zs_ch 7 (nI t) = x ↔ x = [97, 98, 102, 110, 114, 116, 118, 92].getD t 0) := fun t ht => by rw [zs_sh_ch t ht]; exact eq_comm
  have n0 : ∀ t, t < 8 → t < j → ¬ x = [97, 98, 102, 110, 114, 116, 118, 92].getD t 0 := fun t ht hq he => h1 t hq ((g t ht).mpr he)
  have p0 : j < 8 → x = [97, 98, 102, 110, 114, 116, 118, 92].getD j 0 := fun hq => (g j hq).mp (h2.resolve_left (by omega))
  have m0 := n0 0 (by decide)
  have m1 := n0 1 (by decide)
  have m2 := n0 2 (by decide)
  have m3 := n0 3 (by decide)
  have m4 := n0 4 (by decide)
  have m5 := n0 5 (by decide)
  have m6 := n0 6 (by decide)
  have m7 := n0 7 (by decide)
  simp only [List.getD_cons_zero, List.getD_cons_succ] at m0 m1 m2 m3 m4 m5 m6 m7
  unfold zr_short
  rcases (show j = 0 ∨ j = 1 ∨ j = 2 ∨ j = 3 ∨ j = 4 ∨ j = 5 ∨ j = 6 ∨ j = 7 ∨ j = 8 by omega) with rfl | rfl | rfl | rfl | rfl | rfl | rfl | rfl | rfl
  · have this : x = 97 := p0 (by decide); rw [if_pos this]; rfl
  · have this : x = 98 := p0 (by decide); rw [if_neg (m0 (by decide)), if_pos this]; rfl
  · have this : x = 102 := p0 (by decide); rw [if_neg (m0 (by decide)), if_neg (m1 (by decide)), if_pos this]; rfl
  · have this : x = 110 := p0 (by decide); rw [if_neg (m0 (by decide)), if_neg (m1 (by decide)), if_neg (m2 (by decide)), if_pos this]; rfl
  · have this : x = 114 := p0 (by decide); rw [if_neg (m0 (by decide)), if_neg (m1 (by decide)), if_neg (m2 (by decide)), if_neg (m3 (by decide)), if_pos this]; rfl
  · have this : x = 116 := p0 (by decide); rw [if_neg (m0 (by decide)), if_neg (m1 (by decide)), if_neg (m2 (by decide)), if_neg (m3 (by decide)), if_neg (m4 (by decide)), if_pos this]; rfl
  · have this : x = 118 := p0 (by decide); rw [if_neg (m0 (by decide)), if_neg (m1 (by decide)), if_neg (m2 (by decide)), if_neg (m3 (by decide)), if_neg (m4 (by decide)), if_neg (m5 (by decide)), if_pos this]; rfl
  · have this : x = 92 := p0 (by decide); rw [if_neg (m0 (by decide)), if_neg (m1 (by decide)), if_neg (m2 (by decide)), if_neg (m3 (by decide)), if_neg (m4 (by decide)), if_neg (m5 (by decide)), if_neg (m6 (by decide)), if_pos this]; rfl
  · rw [if_neg (m0 (by decide)), if_neg (m1 (by decide)), if_neg (m2 (by decide)), if_neg (m3 (by decide)), if_neg (m4 (by decide)), if_neg (m5 (by decide)), if_neg (m6 (by decide)), if_neg (m7 (by decide))]; rfl
theorem zr_short_in {x : Int32} (h : zr_short x < 8) : vp_in (zr_short x) 8 := by
  refine z_in (k := 8) rfl ?_ h
  unfold zr_short
  repeat' split
  all_goals decide
theorem zm_K_in {M : zm_M} {n : Nat} (h : zm_K M (n + 1)) : vp_in (M.1 15) 65536 := by
  obtain ⟨u, hu, h⟩ := h
  rw [hu]
  exact vp_in_nI (by omega) (by omega)
theorem zm_K_le {M : zm_M} {n k : Nat} (h : zm_K M n) (hk : k ≤ n) : zm_K M k := by
  obtain ⟨u, hu, h⟩ := h
  exact ⟨u, hu, by omega⟩
theorem zm_K_keep {M : zm_M} {n : Nat} {b : Int32} (h : zm_K M (n + 1)) : zm_K (zm_keep M b) n := by
  obtain ⟨u, hu, h⟩ := h
  refine ⟨u + 1, ?_, by omega⟩
  show M.1 15 + 1 = nI (u + 1)
  rw [hu, nI_1]
theorem zr_ib_fit (x : Int32) : narrow .boolean (.int (zr_ib x)) = .int (zr_ib x) ∧ fits .boolean (.int (zr_ib x)) = true := by
  unfold zr_ib
  split <;> exact ⟨rfl, rfl⟩
set_option maxHeartbeats 4000000 in
set_option maxRecDepth 100000 in
theorem kL_escape (l : Launch) (g : za_G) (E : za_E) (h : Nat) (ad : Nat → Nat) (M : zm_M) (x : Int32) (hk : zm_K M 1) {p : Program} {e : Env} {s : State} {m : MethodId} {args : Array Value} {below : List Frame} {meth : Method} {co : Code} {A : Nat → Prop} {Q : State → Prop} (C : za_H p s m args co cX10_escape 3 RX10 g E A) (hQ : Q = MQ below (za_qv g (fun u : zm_M => u = zm_escape M x) (fun u => zm_ws g h ad u) A) args s 0 0 A) (hr : meth.sig.returnType = none) (hlocks : meth.locks = false)  : ∀ (n_ : Nat) (j : Nat), (j ≤ 8) → (∀ t, t < j → ¬ zs_ch 7 (nI t) = x) → 8 - j < n_ → ∀ (H : Heap) (locs : List Loc) (ls : Array Slot), va_S A s.heap H locs → va_P g.1 vwCl (zm_ws g h ad (zm_s M 39 0)) H → va_D A (zm_ws g h ad (zm_s M 39 0)) → lv_has ls 3 [(0, .ref h), (1, .int x), (2, .int (nI j))] → W p l e (za_R 4 0 0) s m args below meth co H locs 0 0 Q (F0 m 7 ls []) := by
  obtain ⟨hx, hb, hml, hown, hts, hK, hA, hE⟩ := id C
  intro n_
  induction n_ with
  | zero => intro j hj hn hm; exact absurd hm (Nat.not_lt_zero _)
  | succ n_ ih =>
    intro j hj hn hm H locs ls hS hP hD hl
    refine lv_iload_n hx hb dX10_escape_7 rfl (lv_at hl 2 rfl) ?_
    refine lv_bipush (v := 8) hx hb dX10_escape_8 (by decide) ?_
    refine za_icmp_ge (tgt := 29) hx hb dX10_escape_10 (by decide) (fun c_10 => ?_) (fun c_10 => ?_)
    · have hj8 : j = 8 := by
        rcases Nat.lt_or_ge j 8 with h9 | h9
        · exact absurd (nI_lt h9 (by decide)) c_10
        · omega
      have hsh : zr_short x = nI j := zs_short_at hj hn (Or.inl hj8)
      rw [← hsh] at hl
      refine lv_aload_n hx hb dX10_escape_29 rfl (lv_at hl 0 rfl) ?_
      refine lv_iconst (v := 0) hx hb dX10_escape_30 (by decide) ?_
      refine va_put (ci := 9) (v := .int 0) hx hb hts iX10 tyX10 tyX10_ok nmX10 hown hK hP hD hS 0 rfl rfl 38 (by decide) (hts _ w_849) (fun _ h9 => h9) rfl (tyX10_ok 38 (by decide)) rfl rfl (Nat.le_of_ble_eq_true rfl) dX10_escape_31 (fun H locs hP hD hS => ?_)
      have hP : va_P g.1 vwCl (zm_ws g h ad (zm_s (zm_s M 39 0) 38 0)) H := hP
      have hD : va_D A (zm_ws g h ad (zm_s (zm_s M 39 0) 38 0)) := hD
      refine lv_iload_n hx hb dX10_escape_34 rfl (lv_at hl 2 rfl) ?_
      refine lv_bipush (v := 8) hx hb dX10_escape_35 (by decide) ?_
      refine lv_icmp_lt (tgt := 48) hx hb dX10_escape_37 (by decide) (fun c_37 => ?_) (fun c_37 => ?_)
      · refine lv_aload_n hx hb dX10_escape_48 rfl (lv_at hl 0 rfl) ?_
        have J_64 : ∀ v : Int32, v = (zr_sv x) → W p l e (za_R 4 0 0) s m args below meth co H locs 0 0 Q (F0 m 64 ls (.int v :: [.ref h])) := by
          intro v_64 hv_64
          refine va_put (ci := 9) (v := .int v_64) hx hb hts iX10 tyX10 tyX10_ok nmX10 hown hK hP hD hS 0 rfl rfl 38 (by decide) (hts _ w_849) (fun _ h9 => h9) rfl (tyX10_ok 38 (by decide)) rfl rfl (Nat.le_of_ble_eq_true rfl) dX10_escape_64 (fun H locs hP hD hS => ?_)
          have hP : va_P g.1 vwCl (zm_ws g h ad (zm_s (zm_s (zm_s M 39 0) 38 0) 38 v_64)) H := hP
          have hD : va_D A (zm_ws g h ad (zm_s (zm_s (zm_s M 39 0) 38 0) 38 v_64)) := hD
          refine lv_aload_n hx hb dX10_escape_67 rfl (lv_at hl 0 rfl) ?_
          refine lv_aload_n hx hb dX10_escape_68 rfl (lv_at hl 0 rfl) ?_
          refine va_get (ci := 9) (v := .int v_64) hx hb hts iX10 hown hK hP 0 rfl rfl 38 (by decide) (hts _ w_849) (fun _ h9 => h9) rfl dX10_escape_69 ?_
          refine za_cv (wc := zm_ws g h ad (zm_s (zm_s (zm_s M 39 0) 38 0) 38 v_64)) (wr := []) C hP hD hS [0, 1, 2, 3, 4, 5, 6, 7, 8, 9, 10, 11, 12, 13, 14, 15, 16, 17] [] rfl rfl (by decide) (by decide) (za_runV C hP hD hS [0, 1, 2, 3, 4, 5, 6, 7, 8, 9, 10, 11, 12, 13, 14, 15, 16, 17] rfl (by decide) rfl (kX10_keep l g E h ad (zm_s (zm_s (zm_s M 39 0) 38 0) 38 v_64) v_64 (zm_K_in (n := 0) (M := zm_s M 39 0) hk)) w_1027 mX10_keep 0 rfl rfl rfl rfl hl.1 rfl (Nat.le_of_ble_eq_true rfl) dX10_escape_72 ⟨by decide, by decide⟩ ⟨by decide, by decide⟩) (fun M1 H locs hM1 hP hD hS => ?_)
          have hP : va_P g.1 vwCl (zm_ws g h ad M1) H := hP
          have hD : va_D A (zm_ws g h ad M1) := hD
          refine lv_aload_n hx hb dX10_escape_75 rfl (lv_at hl 0 rfl) ?_
          refine lv_iconst (v := 1) hx hb dX10_escape_76 (by decide) ?_
          refine va_put (ci := 9) (v := .int 1) hx hb hts iX10 tyX10 tyX10_ok nmX10 hown hK hP hD hS 0 rfl rfl 41 (by decide) (hts _ w_852) (fun _ h9 => h9) rfl (tyX10_ok 41 (by decide)) rfl rfl (Nat.le_of_ble_eq_true rfl) dX10_escape_77 (fun H locs hP hD hS => ?_)
          have hP : va_P g.1 vwCl (zm_ws g h ad (zm_s M1 41 1)) H := hP
          have hD : va_D A (zm_ws g h ad (zm_s M1 41 1)) := hD
          refine lv_goto (tgt := 194) hx hb dX10_escape_80 (by decide) ?_
          subst hM1
          subst hv_64
          exact zm_rv hQ hx hb hr hlocks hK hP hD hS (by simp [zm_escape, zq_upd, c_10, c_37]) dX10_escape_194
        refine lv_iload_n hx hb dX10_escape_49 rfl (lv_at hl 2 rfl) ?_
        refine lv_bipush (v := 8) hx hb dX10_escape_50 (by decide) ?_
        refine za_icmp_ge (tgt := 63) hx hb dX10_escape_52 (by decide) (fun c_52 => ?_) (fun c_52 => ?_)
        · exact absurd c_37 c_52
        · refine va_gets hx hb hE.2.2.2.2.2.2.2.2.2.1 hS hown (hts _ w_1080) (fun _ h9 => h9) dX10_escape_55 ?_
          refine lv_iload_n hx hb dX10_escape_58 rfl (lv_at hl 2 rfl) ?_
          refine va_ti hx hb hE.2.2.2.2.2.2.2.2.2.2 hS (zr_short_in c_52) rfl dX10_escape_59 ?_
          refine lv_goto (tgt := 64) hx hb dX10_escape_60 (by decide) ?_
          exact J_64 (zs_mea.getD (zr_short x).toNatClampNeg 0) (by simp [zr_sv, c_10, c_37, c_52])
      · refine lv_iload_n hx hb dX10_escape_40 rfl (lv_at hl 1 rfl) ?_
        refine lv_aload_n hx hb dX10_escape_41 rfl (lv_at hl 0 rfl) ?_
        refine va_get (ci := 9) (v := .int (M.1 32)) hx hb hts iX10 hown hK hP 0 rfl rfl 32 (by decide) (hts _ w_843) (fun _ h9 => h9) rfl dX10_escape_42 ?_
        refine lv_icmp_ne (tgt := 83) hx hb dX10_escape_45 (by decide) (fun c_45 => ?_) (fun c_45 => ?_)
        · refine lv_iload_n hx hb dX10_escape_83 rfl (lv_at hl 1 rfl) ?_
          refine lv_bipush (v := 48) hx hb dX10_escape_84 (by decide) ?_
          refine lv_icmp_lt (tgt := 122) hx hb dX10_escape_86 (by decide) (fun c_86 => ?_) (fun c_86 => ?_)
          · refine lv_iload_n hx hb dX10_escape_122 rfl (lv_at hl 1 rfl) ?_
            refine lv_bipush (v := 120) hx hb dX10_escape_123 (by decide) ?_
            refine lv_icmp_eq (tgt := 140) hx hb dX10_escape_125 (by decide) (fun c_125 => ?_) (fun c_125 => ?_)
            · refine lv_aload_n hx hb dX10_escape_140 rfl (lv_at hl 0 rfl) ?_
              have J_163 : ∀ v : Int32, v = (zr_dg x) → W p l e (za_R 4 0 0) s m args below meth co H locs 0 0 Q (F0 m 163 ls (.int v :: [.ref h])) := by
                intro v_163 hv_163
                refine va_put (ci := 9) (v := .int v_163) hx hb hts iX10 tyX10 tyX10_ok nmX10 hown hK hP hD hS 0 rfl rfl 36 (by decide) (hts _ w_847) (fun _ h9 => h9) rfl (tyX10_ok 36 (by decide)) rfl rfl (Nat.le_of_ble_eq_true rfl) dX10_escape_163 (fun H locs hP hD hS => ?_)
                have hP : va_P g.1 vwCl (zm_ws g h ad (zm_s (zm_s (zm_s M 39 0) 38 0) 36 v_163)) H := hP
                have hD : va_D A (zm_ws g h ad (zm_s (zm_s (zm_s M 39 0) 38 0) 36 v_163)) := hD
                refine lv_aload_n hx hb dX10_escape_166 rfl (lv_at hl 0 rfl) ?_
                refine lv_bipush (v := 16) hx hb dX10_escape_167 (by decide) ?_
                refine va_put (ci := 9) (v := .int 16) hx hb hts iX10 tyX10 tyX10_ok nmX10 hown hK hP hD hS 0 rfl rfl 37 (by decide) (hts _ w_848) (fun _ h9 => h9) rfl (tyX10_ok 37 (by decide)) rfl rfl (Nat.le_of_ble_eq_true rfl) dX10_escape_169 (fun H locs hP hD hS => ?_)
                have hP : va_P g.1 vwCl (zm_ws g h ad (zm_s (zm_s (zm_s (zm_s M 39 0) 38 0) 36 v_163) 37 16)) H := hP
                have hD : va_D A (zm_ws g h ad (zm_s (zm_s (zm_s (zm_s M 39 0) 38 0) 36 v_163) 37 16)) := hD
                refine lv_aload_n hx hb dX10_escape_172 rfl (lv_at hl 0 rfl) ?_
                have J_184 : ∀ v : Int32, v = (zr_ib x) → W p l e (za_R 4 0 0) s m args below meth co H locs 0 0 Q (F0 m 184 ls (.int v :: [.ref h])) := by
                  intro v_184 hv_184
                  refine va_put (ci := 9) (v := .int v_184) hx hb hts iX10 tyX10 tyX10_ok nmX10 hown hK hP hD hS 0 rfl rfl 40 (by decide) (hts _ w_851) (fun _ h9 => h9) rfl (tyX10_ok 40 (by decide)) (by rw [hv_184]; exact (zr_ib_fit x).1) (by rw [hv_184]; exact (zr_ib_fit x).2) (Nat.le_of_ble_eq_true rfl) dX10_escape_184 (fun H locs hP hD hS => ?_)
                  have hP : va_P g.1 vwCl (zm_ws g h ad (zm_s (zm_s (zm_s (zm_s (zm_s M 39 0) 38 0) 36 v_163) 37 16) 40 v_184)) H := hP
                  have hD : va_D A (zm_ws g h ad (zm_s (zm_s (zm_s (zm_s (zm_s M 39 0) 38 0) 36 v_163) 37 16) 40 v_184)) := hD
                  refine lv_goto (tgt := 194) hx hb dX10_escape_187 (by decide) ?_
                  subst hv_184
                  subst hv_163
                  exact zm_rv hQ hx hb hr hlocks hK hP hD hS (by simp [zm_escape, zq_upd, c_10, c_37, c_45, c_86, eq_true c_125]) dX10_escape_194
                refine lv_iload_n hx hb dX10_escape_173 rfl (lv_at hl 1 rfl) ?_
                refine lv_bipush (v := 120) hx hb dX10_escape_174 (by decide) ?_
                refine lv_icmp_ne (tgt := 183) hx hb dX10_escape_176 (by decide) (fun c_176 => ?_) (fun c_176 => ?_)
                · exact absurd c_125 c_176
                · refine lv_iconst (v := 1) hx hb dX10_escape_179 (by decide) ?_
                  refine lv_goto (tgt := 184) hx hb dX10_escape_180 (by decide) ?_
                  exact J_184 1 (by simp [zr_ib, c_10, c_37, c_45, c_86, eq_true c_125, eq_true c_176])
              refine lv_iload_n hx hb dX10_escape_141 rfl (lv_at hl 1 rfl) ?_
              refine lv_bipush (v := 120) hx hb dX10_escape_142 (by decide) ?_
              refine lv_icmp_ne (tgt := 151) hx hb dX10_escape_144 (by decide) (fun c_144 => ?_) (fun c_144 => ?_)
              · exact absurd c_125 c_144
              · refine lv_iconst (v := 2) hx hb dX10_escape_147 (by decide) ?_
                refine lv_goto (tgt := 163) hx hb dX10_escape_148 (by decide) ?_
                exact J_163 2 (by simp [zr_dg, c_10, c_37, c_45, c_86, eq_true c_125, eq_true c_144])
            · refine lv_iload_n hx hb dX10_escape_128 rfl (lv_at hl 1 rfl) ?_
              refine lv_bipush (v := 117) hx hb dX10_escape_129 (by decide) ?_
              refine lv_icmp_eq (tgt := 140) hx hb dX10_escape_131 (by decide) (fun c_131 => ?_) (fun c_131 => ?_)
              · refine lv_aload_n hx hb dX10_escape_140 rfl (lv_at hl 0 rfl) ?_
                have J_163 : ∀ v : Int32, v = (zr_dg x) → W p l e (za_R 4 0 0) s m args below meth co H locs 0 0 Q (F0 m 163 ls (.int v :: [.ref h])) := by
                  intro v_163 hv_163
                  refine va_put (ci := 9) (v := .int v_163) hx hb hts iX10 tyX10 tyX10_ok nmX10 hown hK hP hD hS 0 rfl rfl 36 (by decide) (hts _ w_847) (fun _ h9 => h9) rfl (tyX10_ok 36 (by decide)) rfl rfl (Nat.le_of_ble_eq_true rfl) dX10_escape_163 (fun H locs hP hD hS => ?_)
                  have hP : va_P g.1 vwCl (zm_ws g h ad (zm_s (zm_s (zm_s M 39 0) 38 0) 36 v_163)) H := hP
                  have hD : va_D A (zm_ws g h ad (zm_s (zm_s (zm_s M 39 0) 38 0) 36 v_163)) := hD
                  refine lv_aload_n hx hb dX10_escape_166 rfl (lv_at hl 0 rfl) ?_
                  refine lv_bipush (v := 16) hx hb dX10_escape_167 (by decide) ?_
                  refine va_put (ci := 9) (v := .int 16) hx hb hts iX10 tyX10 tyX10_ok nmX10 hown hK hP hD hS 0 rfl rfl 37 (by decide) (hts _ w_848) (fun _ h9 => h9) rfl (tyX10_ok 37 (by decide)) rfl rfl (Nat.le_of_ble_eq_true rfl) dX10_escape_169 (fun H locs hP hD hS => ?_)
                  have hP : va_P g.1 vwCl (zm_ws g h ad (zm_s (zm_s (zm_s (zm_s M 39 0) 38 0) 36 v_163) 37 16)) H := hP
                  have hD : va_D A (zm_ws g h ad (zm_s (zm_s (zm_s (zm_s M 39 0) 38 0) 36 v_163) 37 16)) := hD
                  refine lv_aload_n hx hb dX10_escape_172 rfl (lv_at hl 0 rfl) ?_
                  have J_184 : ∀ v : Int32, v = (zr_ib x) → W p l e (za_R 4 0 0) s m args below meth co H locs 0 0 Q (F0 m 184 ls (.int v :: [.ref h])) := by
                    intro v_184 hv_184
                    refine va_put (ci := 9) (v := .int v_184) hx hb hts iX10 tyX10 tyX10_ok nmX10 hown hK hP hD hS 0 rfl rfl 40 (by decide) (hts _ w_851) (fun _ h9 => h9) rfl (tyX10_ok 40 (by decide)) (by rw [hv_184]; exact (zr_ib_fit x).1) (by rw [hv_184]; exact (zr_ib_fit x).2) (Nat.le_of_ble_eq_true rfl) dX10_escape_184 (fun H locs hP hD hS => ?_)
                    have hP : va_P g.1 vwCl (zm_ws g h ad (zm_s (zm_s (zm_s (zm_s (zm_s M 39 0) 38 0) 36 v_163) 37 16) 40 v_184)) H := hP
                    have hD : va_D A (zm_ws g h ad (zm_s (zm_s (zm_s (zm_s (zm_s M 39 0) 38 0) 36 v_163) 37 16) 40 v_184)) := hD
                    refine lv_goto (tgt := 194) hx hb dX10_escape_187 (by decide) ?_
                    subst hv_184
                    subst hv_163
                    exact zm_rv hQ hx hb hr hlocks hK hP hD hS (by simp [zm_escape, zq_upd, c_10, c_37, c_45, c_86, c_125, eq_true c_131]) dX10_escape_194
                  refine lv_iload_n hx hb dX10_escape_173 rfl (lv_at hl 1 rfl) ?_
                  refine lv_bipush (v := 120) hx hb dX10_escape_174 (by decide) ?_
                  refine lv_icmp_ne (tgt := 183) hx hb dX10_escape_176 (by decide) (fun c_176 => ?_) (fun c_176 => ?_)
                  · refine lv_iconst (v := 0) hx hb dX10_escape_183 (by decide) ?_
                    exact J_184 0 (by simp [zr_ib, c_10, c_37, c_45, c_86, c_125, eq_true c_131, c_176])
                  · exact absurd c_176 c_125
                refine lv_iload_n hx hb dX10_escape_141 rfl (lv_at hl 1 rfl) ?_
                refine lv_bipush (v := 120) hx hb dX10_escape_142 (by decide) ?_
                refine lv_icmp_ne (tgt := 151) hx hb dX10_escape_144 (by decide) (fun c_144 => ?_) (fun c_144 => ?_)
                · refine lv_iload_n hx hb dX10_escape_151 rfl (lv_at hl 1 rfl) ?_
                  refine lv_bipush (v := 117) hx hb dX10_escape_152 (by decide) ?_
                  refine lv_icmp_ne (tgt := 161) hx hb dX10_escape_154 (by decide) (fun c_154 => ?_) (fun c_154 => ?_)
                  · exact absurd c_131 c_154
                  · refine lv_iconst (v := 4) hx hb dX10_escape_157 (by decide) ?_
                    refine lv_goto (tgt := 163) hx hb dX10_escape_158 (by decide) ?_
                    exact J_163 4 (by simp [zr_dg, c_10, c_37, c_45, c_86, c_125, eq_true c_131, c_144, eq_true c_154])
                · exact absurd c_144 c_125
              · refine lv_iload_n hx hb dX10_escape_134 rfl (lv_at hl 1 rfl) ?_
                refine lv_bipush (v := 85) hx hb dX10_escape_135 (by decide) ?_
                refine lv_icmp_ne (tgt := 190) hx hb dX10_escape_137 (by decide) (fun c_137 => ?_) (fun c_137 => ?_)
                · refine lv_aload_n hx hb dX10_escape_190 rfl (lv_at hl 0 rfl) ?_
                  refine za_cv (wc := zm_ws g h ad (zm_s (zm_s M 39 0) 38 0)) (wr := []) C hP hD hS [0, 1, 2, 3, 4, 5, 6, 7, 8, 9, 10, 11, 12, 13, 14, 15, 16, 17] [] rfl rfl (by decide) (by decide) (za_runV C hP hD hS [0, 1, 2, 3, 4, 5, 6, 7, 8, 9, 10, 11, 12, 13, 14, 15, 16, 17] rfl (by decide) rfl (kX10_error l g E h ad (zm_s (zm_s M 39 0) 38 0)  ) w_1010 mX10_error 0 rfl rfl rfl rfl hl.1 rfl (Nat.le_of_ble_eq_true rfl) dX10_escape_191 ⟨by decide, by decide⟩ ⟨by decide, by decide⟩) (fun M2 H locs hM2 hP hD hS => ?_)
                  have hP : va_P g.1 vwCl (zm_ws g h ad M2) H := hP
                  have hD : va_D A (zm_ws g h ad M2) := hD
                  subst hM2
                  exact zm_rv hQ hx hb hr hlocks hK hP hD hS (by simp [zm_escape, zq_upd, c_10, c_37, c_45, c_86, c_125, c_131, c_137]) dX10_escape_194
                · refine lv_aload_n hx hb dX10_escape_140 rfl (lv_at hl 0 rfl) ?_
                  have J_163 : ∀ v : Int32, v = (zr_dg x) → W p l e (za_R 4 0 0) s m args below meth co H locs 0 0 Q (F0 m 163 ls (.int v :: [.ref h])) := by
                    intro v_163 hv_163
                    refine va_put (ci := 9) (v := .int v_163) hx hb hts iX10 tyX10 tyX10_ok nmX10 hown hK hP hD hS 0 rfl rfl 36 (by decide) (hts _ w_847) (fun _ h9 => h9) rfl (tyX10_ok 36 (by decide)) rfl rfl (Nat.le_of_ble_eq_true rfl) dX10_escape_163 (fun H locs hP hD hS => ?_)
                    have hP : va_P g.1 vwCl (zm_ws g h ad (zm_s (zm_s (zm_s M 39 0) 38 0) 36 v_163)) H := hP
                    have hD : va_D A (zm_ws g h ad (zm_s (zm_s (zm_s M 39 0) 38 0) 36 v_163)) := hD
                    refine lv_aload_n hx hb dX10_escape_166 rfl (lv_at hl 0 rfl) ?_
                    refine lv_bipush (v := 16) hx hb dX10_escape_167 (by decide) ?_
                    refine va_put (ci := 9) (v := .int 16) hx hb hts iX10 tyX10 tyX10_ok nmX10 hown hK hP hD hS 0 rfl rfl 37 (by decide) (hts _ w_848) (fun _ h9 => h9) rfl (tyX10_ok 37 (by decide)) rfl rfl (Nat.le_of_ble_eq_true rfl) dX10_escape_169 (fun H locs hP hD hS => ?_)
                    have hP : va_P g.1 vwCl (zm_ws g h ad (zm_s (zm_s (zm_s (zm_s M 39 0) 38 0) 36 v_163) 37 16)) H := hP
                    have hD : va_D A (zm_ws g h ad (zm_s (zm_s (zm_s (zm_s M 39 0) 38 0) 36 v_163) 37 16)) := hD
                    refine lv_aload_n hx hb dX10_escape_172 rfl (lv_at hl 0 rfl) ?_
                    have J_184 : ∀ v : Int32, v = (zr_ib x) → W p l e (za_R 4 0 0) s m args below meth co H locs 0 0 Q (F0 m 184 ls (.int v :: [.ref h])) := by
                      intro v_184 hv_184
                      refine va_put (ci := 9) (v := .int v_184) hx hb hts iX10 tyX10 tyX10_ok nmX10 hown hK hP hD hS 0 rfl rfl 40 (by decide) (hts _ w_851) (fun _ h9 => h9) rfl (tyX10_ok 40 (by decide)) (by rw [hv_184]; exact (zr_ib_fit x).1) (by rw [hv_184]; exact (zr_ib_fit x).2) (Nat.le_of_ble_eq_true rfl) dX10_escape_184 (fun H locs hP hD hS => ?_)
                      have hP : va_P g.1 vwCl (zm_ws g h ad (zm_s (zm_s (zm_s (zm_s (zm_s M 39 0) 38 0) 36 v_163) 37 16) 40 v_184)) H := hP
                      have hD : va_D A (zm_ws g h ad (zm_s (zm_s (zm_s (zm_s (zm_s M 39 0) 38 0) 36 v_163) 37 16) 40 v_184)) := hD
                      refine lv_goto (tgt := 194) hx hb dX10_escape_187 (by decide) ?_
                      subst hv_184
                      subst hv_163
                      exact zm_rv hQ hx hb hr hlocks hK hP hD hS (by simp [zm_escape, zq_upd, c_10, c_37, c_45, c_86, c_125, c_131, eq_true c_137]) dX10_escape_194
                    refine lv_iload_n hx hb dX10_escape_173 rfl (lv_at hl 1 rfl) ?_
                    refine lv_bipush (v := 120) hx hb dX10_escape_174 (by decide) ?_
                    refine lv_icmp_ne (tgt := 183) hx hb dX10_escape_176 (by decide) (fun c_176 => ?_) (fun c_176 => ?_)
                    · refine lv_iconst (v := 0) hx hb dX10_escape_183 (by decide) ?_
                      exact J_184 0 (by simp [zr_ib, c_10, c_37, c_45, c_86, c_125, c_131, eq_true c_137, c_176])
                    · exact absurd c_176 c_125
                  refine lv_iload_n hx hb dX10_escape_141 rfl (lv_at hl 1 rfl) ?_
                  refine lv_bipush (v := 120) hx hb dX10_escape_142 (by decide) ?_
                  refine lv_icmp_ne (tgt := 151) hx hb dX10_escape_144 (by decide) (fun c_144 => ?_) (fun c_144 => ?_)
                  · refine lv_iload_n hx hb dX10_escape_151 rfl (lv_at hl 1 rfl) ?_
                    refine lv_bipush (v := 117) hx hb dX10_escape_152 (by decide) ?_
                    refine lv_icmp_ne (tgt := 161) hx hb dX10_escape_154 (by decide) (fun c_154 => ?_) (fun c_154 => ?_)
                    · refine lv_bipush (v := 8) hx hb dX10_escape_161 (by decide) ?_
                      exact J_163 8 (by simp [zr_dg, c_10, c_37, c_45, c_86, c_125, c_131, eq_true c_137, c_144, c_154])
                    · exact absurd c_154 c_131
                  · exact absurd c_144 c_125
          · refine lv_iload_n hx hb dX10_escape_89 rfl (lv_at hl 1 rfl) ?_
            refine lv_bipush (v := 51) hx hb dX10_escape_90 (by decide) ?_
            refine lv_icmp_gt (tgt := 122) hx hb dX10_escape_92 (by decide) (fun c_92 => ?_) (fun c_92 => ?_)
            · refine lv_iload_n hx hb dX10_escape_122 rfl (lv_at hl 1 rfl) ?_
              refine lv_bipush (v := 120) hx hb dX10_escape_123 (by decide) ?_
              refine lv_icmp_eq (tgt := 140) hx hb dX10_escape_125 (by decide) (fun c_125 => ?_) (fun c_125 => ?_)
              · refine lv_aload_n hx hb dX10_escape_140 rfl (lv_at hl 0 rfl) ?_
                have J_163 : ∀ v : Int32, v = (zr_dg x) → W p l e (za_R 4 0 0) s m args below meth co H locs 0 0 Q (F0 m 163 ls (.int v :: [.ref h])) := by
                  intro v_163 hv_163
                  refine va_put (ci := 9) (v := .int v_163) hx hb hts iX10 tyX10 tyX10_ok nmX10 hown hK hP hD hS 0 rfl rfl 36 (by decide) (hts _ w_847) (fun _ h9 => h9) rfl (tyX10_ok 36 (by decide)) rfl rfl (Nat.le_of_ble_eq_true rfl) dX10_escape_163 (fun H locs hP hD hS => ?_)
                  have hP : va_P g.1 vwCl (zm_ws g h ad (zm_s (zm_s (zm_s M 39 0) 38 0) 36 v_163)) H := hP
                  have hD : va_D A (zm_ws g h ad (zm_s (zm_s (zm_s M 39 0) 38 0) 36 v_163)) := hD
                  refine lv_aload_n hx hb dX10_escape_166 rfl (lv_at hl 0 rfl) ?_
                  refine lv_bipush (v := 16) hx hb dX10_escape_167 (by decide) ?_
                  refine va_put (ci := 9) (v := .int 16) hx hb hts iX10 tyX10 tyX10_ok nmX10 hown hK hP hD hS 0 rfl rfl 37 (by decide) (hts _ w_848) (fun _ h9 => h9) rfl (tyX10_ok 37 (by decide)) rfl rfl (Nat.le_of_ble_eq_true rfl) dX10_escape_169 (fun H locs hP hD hS => ?_)
                  have hP : va_P g.1 vwCl (zm_ws g h ad (zm_s (zm_s (zm_s (zm_s M 39 0) 38 0) 36 v_163) 37 16)) H := hP
                  have hD : va_D A (zm_ws g h ad (zm_s (zm_s (zm_s (zm_s M 39 0) 38 0) 36 v_163) 37 16)) := hD
                  refine lv_aload_n hx hb dX10_escape_172 rfl (lv_at hl 0 rfl) ?_
                  have J_184 : ∀ v : Int32, v = (zr_ib x) → W p l e (za_R 4 0 0) s m args below meth co H locs 0 0 Q (F0 m 184 ls (.int v :: [.ref h])) := by
                    intro v_184 hv_184
                    refine va_put (ci := 9) (v := .int v_184) hx hb hts iX10 tyX10 tyX10_ok nmX10 hown hK hP hD hS 0 rfl rfl 40 (by decide) (hts _ w_851) (fun _ h9 => h9) rfl (tyX10_ok 40 (by decide)) (by rw [hv_184]; exact (zr_ib_fit x).1) (by rw [hv_184]; exact (zr_ib_fit x).2) (Nat.le_of_ble_eq_true rfl) dX10_escape_184 (fun H locs hP hD hS => ?_)
                    have hP : va_P g.1 vwCl (zm_ws g h ad (zm_s (zm_s (zm_s (zm_s (zm_s M 39 0) 38 0) 36 v_163) 37 16) 40 v_184)) H := hP
                    have hD : va_D A (zm_ws g h ad (zm_s (zm_s (zm_s (zm_s (zm_s M 39 0) 38 0) 36 v_163) 37 16) 40 v_184)) := hD
                    refine lv_goto (tgt := 194) hx hb dX10_escape_187 (by decide) ?_
                    subst hv_184
                    subst hv_163
                    exact zm_rv hQ hx hb hr hlocks hK hP hD hS (by simp [zm_escape, zq_upd, c_10, c_37, c_45, c_86, c_92, eq_true c_125]) dX10_escape_194
                  refine lv_iload_n hx hb dX10_escape_173 rfl (lv_at hl 1 rfl) ?_
                  refine lv_bipush (v := 120) hx hb dX10_escape_174 (by decide) ?_
                  refine lv_icmp_ne (tgt := 183) hx hb dX10_escape_176 (by decide) (fun c_176 => ?_) (fun c_176 => ?_)
                  · exact absurd c_125 c_176
                  · refine lv_iconst (v := 1) hx hb dX10_escape_179 (by decide) ?_
                    refine lv_goto (tgt := 184) hx hb dX10_escape_180 (by decide) ?_
                    exact J_184 1 (by simp [zr_ib, c_10, c_37, c_45, c_86, c_92, eq_true c_125, eq_true c_176])
                refine lv_iload_n hx hb dX10_escape_141 rfl (lv_at hl 1 rfl) ?_
                refine lv_bipush (v := 120) hx hb dX10_escape_142 (by decide) ?_
                refine lv_icmp_ne (tgt := 151) hx hb dX10_escape_144 (by decide) (fun c_144 => ?_) (fun c_144 => ?_)
                · exact absurd c_125 c_144
                · refine lv_iconst (v := 2) hx hb dX10_escape_147 (by decide) ?_
                  refine lv_goto (tgt := 163) hx hb dX10_escape_148 (by decide) ?_
                  exact J_163 2 (by simp [zr_dg, c_10, c_37, c_45, c_86, c_92, eq_true c_125, eq_true c_144])
              · refine lv_iload_n hx hb dX10_escape_128 rfl (lv_at hl 1 rfl) ?_
                refine lv_bipush (v := 117) hx hb dX10_escape_129 (by decide) ?_
                refine lv_icmp_eq (tgt := 140) hx hb dX10_escape_131 (by decide) (fun c_131 => ?_) (fun c_131 => ?_)
                · refine lv_aload_n hx hb dX10_escape_140 rfl (lv_at hl 0 rfl) ?_
                  have J_163 : ∀ v : Int32, v = (zr_dg x) → W p l e (za_R 4 0 0) s m args below meth co H locs 0 0 Q (F0 m 163 ls (.int v :: [.ref h])) := by
                    intro v_163 hv_163
                    refine va_put (ci := 9) (v := .int v_163) hx hb hts iX10 tyX10 tyX10_ok nmX10 hown hK hP hD hS 0 rfl rfl 36 (by decide) (hts _ w_847) (fun _ h9 => h9) rfl (tyX10_ok 36 (by decide)) rfl rfl (Nat.le_of_ble_eq_true rfl) dX10_escape_163 (fun H locs hP hD hS => ?_)
                    have hP : va_P g.1 vwCl (zm_ws g h ad (zm_s (zm_s (zm_s M 39 0) 38 0) 36 v_163)) H := hP
                    have hD : va_D A (zm_ws g h ad (zm_s (zm_s (zm_s M 39 0) 38 0) 36 v_163)) := hD
                    refine lv_aload_n hx hb dX10_escape_166 rfl (lv_at hl 0 rfl) ?_
                    refine lv_bipush (v := 16) hx hb dX10_escape_167 (by decide) ?_
                    refine va_put (ci := 9) (v := .int 16) hx hb hts iX10 tyX10 tyX10_ok nmX10 hown hK hP hD hS 0 rfl rfl 37 (by decide) (hts _ w_848) (fun _ h9 => h9) rfl (tyX10_ok 37 (by decide)) rfl rfl (Nat.le_of_ble_eq_true rfl) dX10_escape_169 (fun H locs hP hD hS => ?_)
                    have hP : va_P g.1 vwCl (zm_ws g h ad (zm_s (zm_s (zm_s (zm_s M 39 0) 38 0) 36 v_163) 37 16)) H := hP
                    have hD : va_D A (zm_ws g h ad (zm_s (zm_s (zm_s (zm_s M 39 0) 38 0) 36 v_163) 37 16)) := hD
                    refine lv_aload_n hx hb dX10_escape_172 rfl (lv_at hl 0 rfl) ?_
                    have J_184 : ∀ v : Int32, v = (zr_ib x) → W p l e (za_R 4 0 0) s m args below meth co H locs 0 0 Q (F0 m 184 ls (.int v :: [.ref h])) := by
                      intro v_184 hv_184
                      refine va_put (ci := 9) (v := .int v_184) hx hb hts iX10 tyX10 tyX10_ok nmX10 hown hK hP hD hS 0 rfl rfl 40 (by decide) (hts _ w_851) (fun _ h9 => h9) rfl (tyX10_ok 40 (by decide)) (by rw [hv_184]; exact (zr_ib_fit x).1) (by rw [hv_184]; exact (zr_ib_fit x).2) (Nat.le_of_ble_eq_true rfl) dX10_escape_184 (fun H locs hP hD hS => ?_)
                      have hP : va_P g.1 vwCl (zm_ws g h ad (zm_s (zm_s (zm_s (zm_s (zm_s M 39 0) 38 0) 36 v_163) 37 16) 40 v_184)) H := hP
                      have hD : va_D A (zm_ws g h ad (zm_s (zm_s (zm_s (zm_s (zm_s M 39 0) 38 0) 36 v_163) 37 16) 40 v_184)) := hD
                      refine lv_goto (tgt := 194) hx hb dX10_escape_187 (by decide) ?_
                      subst hv_184
                      subst hv_163
                      exact zm_rv hQ hx hb hr hlocks hK hP hD hS (by simp [zm_escape, zq_upd, c_10, c_37, c_45, c_86, c_92, c_125, eq_true c_131]) dX10_escape_194
                    refine lv_iload_n hx hb dX10_escape_173 rfl (lv_at hl 1 rfl) ?_
                    refine lv_bipush (v := 120) hx hb dX10_escape_174 (by decide) ?_
                    refine lv_icmp_ne (tgt := 183) hx hb dX10_escape_176 (by decide) (fun c_176 => ?_) (fun c_176 => ?_)
                    · refine lv_iconst (v := 0) hx hb dX10_escape_183 (by decide) ?_
                      exact J_184 0 (by simp [zr_ib, c_10, c_37, c_45, c_86, c_92, c_125, eq_true c_131, c_176])
                    · exact absurd c_176 c_125
                  refine lv_iload_n hx hb dX10_escape_141 rfl (lv_at hl 1 rfl) ?_
                  refine lv_bipush (v := 120) hx hb dX10_escape_142 (by decide) ?_
                  refine lv_icmp_ne (tgt := 151) hx hb dX10_escape_144 (by decide) (fun c_144 => ?_) (fun c_144 => ?_)
                  · refine lv_iload_n hx hb dX10_escape_151 rfl (lv_at hl 1 rfl) ?_
                    refine lv_bipush (v := 117) hx hb dX10_escape_152 (by decide) ?_
                    refine lv_icmp_ne (tgt := 161) hx hb dX10_escape_154 (by decide) (fun c_154 => ?_) (fun c_154 => ?_)
                    · exact absurd c_131 c_154
                    · refine lv_iconst (v := 4) hx hb dX10_escape_157 (by decide) ?_
                      refine lv_goto (tgt := 163) hx hb dX10_escape_158 (by decide) ?_
                      exact J_163 4 (by simp [zr_dg, c_10, c_37, c_45, c_86, c_92, c_125, eq_true c_131, c_144, eq_true c_154])
                  · exact absurd c_144 c_125
                · refine lv_iload_n hx hb dX10_escape_134 rfl (lv_at hl 1 rfl) ?_
                  refine lv_bipush (v := 85) hx hb dX10_escape_135 (by decide) ?_
                  refine lv_icmp_ne (tgt := 190) hx hb dX10_escape_137 (by decide) (fun c_137 => ?_) (fun c_137 => ?_)
                  · refine lv_aload_n hx hb dX10_escape_190 rfl (lv_at hl 0 rfl) ?_
                    refine za_cv (wc := zm_ws g h ad (zm_s (zm_s M 39 0) 38 0)) (wr := []) C hP hD hS [0, 1, 2, 3, 4, 5, 6, 7, 8, 9, 10, 11, 12, 13, 14, 15, 16, 17] [] rfl rfl (by decide) (by decide) (za_runV C hP hD hS [0, 1, 2, 3, 4, 5, 6, 7, 8, 9, 10, 11, 12, 13, 14, 15, 16, 17] rfl (by decide) rfl (kX10_error l g E h ad (zm_s (zm_s M 39 0) 38 0)  ) w_1010 mX10_error 0 rfl rfl rfl rfl hl.1 rfl (Nat.le_of_ble_eq_true rfl) dX10_escape_191 ⟨by decide, by decide⟩ ⟨by decide, by decide⟩) (fun M3 H locs hM3 hP hD hS => ?_)
                    have hP : va_P g.1 vwCl (zm_ws g h ad M3) H := hP
                    have hD : va_D A (zm_ws g h ad M3) := hD
                    subst hM3
                    exact zm_rv hQ hx hb hr hlocks hK hP hD hS (by simp [zm_escape, zq_upd, c_10, c_37, c_45, c_86, c_92, c_125, c_131, c_137]) dX10_escape_194
                  · refine lv_aload_n hx hb dX10_escape_140 rfl (lv_at hl 0 rfl) ?_
                    have J_163 : ∀ v : Int32, v = (zr_dg x) → W p l e (za_R 4 0 0) s m args below meth co H locs 0 0 Q (F0 m 163 ls (.int v :: [.ref h])) := by
                      intro v_163 hv_163
                      refine va_put (ci := 9) (v := .int v_163) hx hb hts iX10 tyX10 tyX10_ok nmX10 hown hK hP hD hS 0 rfl rfl 36 (by decide) (hts _ w_847) (fun _ h9 => h9) rfl (tyX10_ok 36 (by decide)) rfl rfl (Nat.le_of_ble_eq_true rfl) dX10_escape_163 (fun H locs hP hD hS => ?_)
                      have hP : va_P g.1 vwCl (zm_ws g h ad (zm_s (zm_s (zm_s M 39 0) 38 0) 36 v_163)) H := hP
                      have hD : va_D A (zm_ws g h ad (zm_s (zm_s (zm_s M 39 0) 38 0) 36 v_163)) := hD
                      refine lv_aload_n hx hb dX10_escape_166 rfl (lv_at hl 0 rfl) ?_
                      refine lv_bipush (v := 16) hx hb dX10_escape_167 (by decide) ?_
                      refine va_put (ci := 9) (v := .int 16) hx hb hts iX10 tyX10 tyX10_ok nmX10 hown hK hP hD hS 0 rfl rfl 37 (by decide) (hts _ w_848) (fun _ h9 => h9) rfl (tyX10_ok 37 (by decide)) rfl rfl (Nat.le_of_ble_eq_true rfl) dX10_escape_169 (fun H locs hP hD hS => ?_)
                      have hP : va_P g.1 vwCl (zm_ws g h ad (zm_s (zm_s (zm_s (zm_s M 39 0) 38 0) 36 v_163) 37 16)) H := hP
                      have hD : va_D A (zm_ws g h ad (zm_s (zm_s (zm_s (zm_s M 39 0) 38 0) 36 v_163) 37 16)) := hD
                      refine lv_aload_n hx hb dX10_escape_172 rfl (lv_at hl 0 rfl) ?_
                      have J_184 : ∀ v : Int32, v = (zr_ib x) → W p l e (za_R 4 0 0) s m args below meth co H locs 0 0 Q (F0 m 184 ls (.int v :: [.ref h])) := by
                        intro v_184 hv_184
                        refine va_put (ci := 9) (v := .int v_184) hx hb hts iX10 tyX10 tyX10_ok nmX10 hown hK hP hD hS 0 rfl rfl 40 (by decide) (hts _ w_851) (fun _ h9 => h9) rfl (tyX10_ok 40 (by decide)) (by rw [hv_184]; exact (zr_ib_fit x).1) (by rw [hv_184]; exact (zr_ib_fit x).2) (Nat.le_of_ble_eq_true rfl) dX10_escape_184 (fun H locs hP hD hS => ?_)
                        have hP : va_P g.1 vwCl (zm_ws g h ad (zm_s (zm_s (zm_s (zm_s (zm_s M 39 0) 38 0) 36 v_163) 37 16) 40 v_184)) H := hP
                        have hD : va_D A (zm_ws g h ad (zm_s (zm_s (zm_s (zm_s (zm_s M 39 0) 38 0) 36 v_163) 37 16) 40 v_184)) := hD
                        refine lv_goto (tgt := 194) hx hb dX10_escape_187 (by decide) ?_
                        subst hv_184
                        subst hv_163
                        exact zm_rv hQ hx hb hr hlocks hK hP hD hS (by simp [zm_escape, zq_upd, c_10, c_37, c_45, c_86, c_92, c_125, c_131, eq_true c_137]) dX10_escape_194
                      refine lv_iload_n hx hb dX10_escape_173 rfl (lv_at hl 1 rfl) ?_
                      refine lv_bipush (v := 120) hx hb dX10_escape_174 (by decide) ?_
                      refine lv_icmp_ne (tgt := 183) hx hb dX10_escape_176 (by decide) (fun c_176 => ?_) (fun c_176 => ?_)
                      · refine lv_iconst (v := 0) hx hb dX10_escape_183 (by decide) ?_
                        exact J_184 0 (by simp [zr_ib, c_10, c_37, c_45, c_86, c_92, c_125, c_131, eq_true c_137, c_176])
                      · exact absurd c_176 c_125
                    refine lv_iload_n hx hb dX10_escape_141 rfl (lv_at hl 1 rfl) ?_
                    refine lv_bipush (v := 120) hx hb dX10_escape_142 (by decide) ?_
                    refine lv_icmp_ne (tgt := 151) hx hb dX10_escape_144 (by decide) (fun c_144 => ?_) (fun c_144 => ?_)
                    · refine lv_iload_n hx hb dX10_escape_151 rfl (lv_at hl 1 rfl) ?_
                      refine lv_bipush (v := 117) hx hb dX10_escape_152 (by decide) ?_
                      refine lv_icmp_ne (tgt := 161) hx hb dX10_escape_154 (by decide) (fun c_154 => ?_) (fun c_154 => ?_)
                      · refine lv_bipush (v := 8) hx hb dX10_escape_161 (by decide) ?_
                        exact J_163 8 (by simp [zr_dg, c_10, c_37, c_45, c_86, c_92, c_125, c_131, eq_true c_137, c_144, c_154])
                      · exact absurd c_154 c_131
                    · exact absurd c_144 c_125
            · refine lv_aload_n hx hb dX10_escape_95 rfl (lv_at hl 0 rfl) ?_
              refine lv_iconst (v := 2) hx hb dX10_escape_96 (by decide) ?_
              refine va_put (ci := 9) (v := .int 2) hx hb hts iX10 tyX10 tyX10_ok nmX10 hown hK hP hD hS 0 rfl rfl 36 (by decide) (hts _ w_847) (fun _ h9 => h9) rfl (tyX10_ok 36 (by decide)) rfl rfl (Nat.le_of_ble_eq_true rfl) dX10_escape_97 (fun H locs hP hD hS => ?_)
              have hP : va_P g.1 vwCl (zm_ws g h ad (zm_s (zm_s (zm_s M 39 0) 38 0) 36 2)) H := hP
              have hD : va_D A (zm_ws g h ad (zm_s (zm_s (zm_s M 39 0) 38 0) 36 2)) := hD
              refine lv_aload_n hx hb dX10_escape_100 rfl (lv_at hl 0 rfl) ?_
              refine lv_bipush (v := 8) hx hb dX10_escape_101 (by decide) ?_
              refine va_put (ci := 9) (v := .int 8) hx hb hts iX10 tyX10 tyX10_ok nmX10 hown hK hP hD hS 0 rfl rfl 37 (by decide) (hts _ w_848) (fun _ h9 => h9) rfl (tyX10_ok 37 (by decide)) rfl rfl (Nat.le_of_ble_eq_true rfl) dX10_escape_103 (fun H locs hP hD hS => ?_)
              have hP : va_P g.1 vwCl (zm_ws g h ad (zm_s (zm_s (zm_s (zm_s M 39 0) 38 0) 36 2) 37 8)) H := hP
              have hD : va_D A (zm_ws g h ad (zm_s (zm_s (zm_s (zm_s M 39 0) 38 0) 36 2) 37 8)) := hD
              refine lv_aload_n hx hb dX10_escape_106 rfl (lv_at hl 0 rfl) ?_
              refine lv_iload_n hx hb dX10_escape_107 rfl (lv_at hl 1 rfl) ?_
              refine lv_bipush (v := 48) hx hb dX10_escape_108 (by decide) ?_
              refine lv_isub hx hb dX10_escape_110 ?_
              refine va_put (ci := 9) (v := .int (x - 48)) hx hb hts iX10 tyX10 tyX10_ok nmX10 hown hK hP hD hS 0 rfl rfl 38 (by decide) (hts _ w_849) (fun _ h9 => h9) rfl (tyX10_ok 38 (by decide)) rfl rfl (Nat.le_of_ble_eq_true rfl) dX10_escape_111 (fun H locs hP hD hS => ?_)
              have hP : va_P g.1 vwCl (zm_ws g h ad (zm_s (zm_s (zm_s (zm_s (zm_s M 39 0) 38 0) 36 2) 37 8) 38 (x - 48))) H := hP
              have hD : va_D A (zm_ws g h ad (zm_s (zm_s (zm_s (zm_s (zm_s M 39 0) 38 0) 36 2) 37 8) 38 (x - 48))) := hD
              refine lv_aload_n hx hb dX10_escape_114 rfl (lv_at hl 0 rfl) ?_
              refine lv_iconst (v := 1) hx hb dX10_escape_115 (by decide) ?_
              refine va_put (ci := 9) (v := .int 1) hx hb hts iX10 tyX10 tyX10_ok nmX10 hown hK hP hD hS 0 rfl rfl 40 (by decide) (hts _ w_851) (fun _ h9 => h9) rfl (tyX10_ok 40 (by decide)) rfl rfl (Nat.le_of_ble_eq_true rfl) dX10_escape_116 (fun H locs hP hD hS => ?_)
              have hP : va_P g.1 vwCl (zm_ws g h ad (zm_s (zm_s (zm_s (zm_s (zm_s (zm_s M 39 0) 38 0) 36 2) 37 8) 38 (x - 48)) 40 1)) H := hP
              have hD : va_D A (zm_ws g h ad (zm_s (zm_s (zm_s (zm_s (zm_s (zm_s M 39 0) 38 0) 36 2) 37 8) 38 (x - 48)) 40 1)) := hD
              refine lv_goto (tgt := 194) hx hb dX10_escape_119 (by decide) ?_
              exact zm_rv hQ hx hb hr hlocks hK hP hD hS (by simp [zm_escape, zq_upd, c_10, c_37, c_45, c_86, c_92]) dX10_escape_194
        · refine lv_aload_n hx hb dX10_escape_48 rfl (lv_at hl 0 rfl) ?_
          have J_64 : ∀ v : Int32, v = (zr_sv x) → W p l e (za_R 4 0 0) s m args below meth co H locs 0 0 Q (F0 m 64 ls (.int v :: [.ref h])) := by
            intro v_64 hv_64
            refine va_put (ci := 9) (v := .int v_64) hx hb hts iX10 tyX10 tyX10_ok nmX10 hown hK hP hD hS 0 rfl rfl 38 (by decide) (hts _ w_849) (fun _ h9 => h9) rfl (tyX10_ok 38 (by decide)) rfl rfl (Nat.le_of_ble_eq_true rfl) dX10_escape_64 (fun H locs hP hD hS => ?_)
            have hP : va_P g.1 vwCl (zm_ws g h ad (zm_s (zm_s (zm_s M 39 0) 38 0) 38 v_64)) H := hP
            have hD : va_D A (zm_ws g h ad (zm_s (zm_s (zm_s M 39 0) 38 0) 38 v_64)) := hD
            refine lv_aload_n hx hb dX10_escape_67 rfl (lv_at hl 0 rfl) ?_
            refine lv_aload_n hx hb dX10_escape_68 rfl (lv_at hl 0 rfl) ?_
            refine va_get (ci := 9) (v := .int v_64) hx hb hts iX10 hown hK hP 0 rfl rfl 38 (by decide) (hts _ w_849) (fun _ h9 => h9) rfl dX10_escape_69 ?_
            refine za_cv (wc := zm_ws g h ad (zm_s (zm_s (zm_s M 39 0) 38 0) 38 v_64)) (wr := []) C hP hD hS [0, 1, 2, 3, 4, 5, 6, 7, 8, 9, 10, 11, 12, 13, 14, 15, 16, 17] [] rfl rfl (by decide) (by decide) (za_runV C hP hD hS [0, 1, 2, 3, 4, 5, 6, 7, 8, 9, 10, 11, 12, 13, 14, 15, 16, 17] rfl (by decide) rfl (kX10_keep l g E h ad (zm_s (zm_s (zm_s M 39 0) 38 0) 38 v_64) v_64 (zm_K_in (n := 0) (M := zm_s M 39 0) hk)) w_1027 mX10_keep 0 rfl rfl rfl rfl hl.1 rfl (Nat.le_of_ble_eq_true rfl) dX10_escape_72 ⟨by decide, by decide⟩ ⟨by decide, by decide⟩) (fun M4 H locs hM4 hP hD hS => ?_)
            have hP : va_P g.1 vwCl (zm_ws g h ad M4) H := hP
            have hD : va_D A (zm_ws g h ad M4) := hD
            refine lv_aload_n hx hb dX10_escape_75 rfl (lv_at hl 0 rfl) ?_
            refine lv_iconst (v := 1) hx hb dX10_escape_76 (by decide) ?_
            refine va_put (ci := 9) (v := .int 1) hx hb hts iX10 tyX10 tyX10_ok nmX10 hown hK hP hD hS 0 rfl rfl 41 (by decide) (hts _ w_852) (fun _ h9 => h9) rfl (tyX10_ok 41 (by decide)) rfl rfl (Nat.le_of_ble_eq_true rfl) dX10_escape_77 (fun H locs hP hD hS => ?_)
            have hP : va_P g.1 vwCl (zm_ws g h ad (zm_s M4 41 1)) H := hP
            have hD : va_D A (zm_ws g h ad (zm_s M4 41 1)) := hD
            refine lv_goto (tgt := 194) hx hb dX10_escape_80 (by decide) ?_
            subst hM4
            subst hv_64
            exact zm_rv hQ hx hb hr hlocks hK hP hD hS (by simp [zm_escape, zq_upd, c_10, c_37, eq_true c_45]) dX10_escape_194
          refine lv_iload_n hx hb dX10_escape_49 rfl (lv_at hl 2 rfl) ?_
          refine lv_bipush (v := 8) hx hb dX10_escape_50 (by decide) ?_
          refine za_icmp_ge (tgt := 63) hx hb dX10_escape_52 (by decide) (fun c_52 => ?_) (fun c_52 => ?_)
          · refine lv_iload_n hx hb dX10_escape_63 rfl (lv_at hl 1 rfl) ?_
            exact J_64 x (by simp [zr_sv, c_10, c_37, eq_true c_45, c_52])
          · exact absurd c_52 c_37
    · have hj9 : j + 1 ≤ 8 := by
        rcases Nat.lt_or_ge j 8 with h9 | h9
        · omega
        · (have e9 : j = 8 := by omega); rw [e9] at c_10; exact absurd c_10 (by decide)
      refine va_ldcS hx hb hown (zs_R7 hE) dX10_escape_13 ?_
      refine lv_iload_n hx hb dX10_escape_15 rfl (lv_at hl 2 rfl) ?_
      refine za_ci (wc := []) (wr := zm_ws g h ad (zm_s M 39 0)) C hP hD hS [] [0, 1, 2, 3, 4, 5, 6, 7, 8, 9, 10, 11, 12, 13, 14, 15, 16, 17] rfl rfl (by decide) (by decide) (za_runVK C hP hD hS [] rfl (by decide) rfl (kJ0_charAt_5068e l g E 7 (by decide) (nI j) (vp_in_nI (show j < zs_len.getD 7 0 from hj9) (by decide))) w_1009 mJ0_charAt_5068e 7 (by decide) rfl rfl rfl hl.1 rfl (Nat.le_of_ble_eq_true rfl) dX10_escape_16 ⟨by decide, by decide⟩ ⟨by decide, by decide⟩) (fun r5 _ H locs hr5 hP hD hS => ?_)
      subst hr5
      have hP : va_P g.1 vwCl (zm_ws g h ad (zm_s M 39 0)) H := hP
      have hD : va_D A (zm_ws g h ad (zm_s M 39 0)) := hD
      refine lv_iload_n hx hb dX10_escape_19 rfl (lv_at hl 1 rfl) ?_
      refine lv_icmp_eq (tgt := 29) hx hb dX10_escape_20 (by decide) (fun c_20 => ?_) (fun c_20 => ?_)
      · have hsh : zr_short x = nI j := zs_short_at hj hn (Or.inr c_20)
        rw [← hsh] at hl
        refine lv_aload_n hx hb dX10_escape_29 rfl (lv_at hl 0 rfl) ?_
        refine lv_iconst (v := 0) hx hb dX10_escape_30 (by decide) ?_
        refine va_put (ci := 9) (v := .int 0) hx hb hts iX10 tyX10 tyX10_ok nmX10 hown hK hP hD hS 0 rfl rfl 38 (by decide) (hts _ w_849) (fun _ h9 => h9) rfl (tyX10_ok 38 (by decide)) rfl rfl (Nat.le_of_ble_eq_true rfl) dX10_escape_31 (fun H locs hP hD hS => ?_)
        have hP : va_P g.1 vwCl (zm_ws g h ad (zm_s (zm_s M 39 0) 38 0)) H := hP
        have hD : va_D A (zm_ws g h ad (zm_s (zm_s M 39 0) 38 0)) := hD
        refine lv_iload_n hx hb dX10_escape_34 rfl (lv_at hl 2 rfl) ?_
        refine lv_bipush (v := 8) hx hb dX10_escape_35 (by decide) ?_
        refine lv_icmp_lt (tgt := 48) hx hb dX10_escape_37 (by decide) (fun c_37 => ?_) (fun c_37 => ?_)
        · refine lv_aload_n hx hb dX10_escape_48 rfl (lv_at hl 0 rfl) ?_
          have J_64 : ∀ v : Int32, v = (zr_sv x) → W p l e (za_R 4 0 0) s m args below meth co H locs 0 0 Q (F0 m 64 ls (.int v :: [.ref h])) := by
            intro v_64 hv_64
            refine va_put (ci := 9) (v := .int v_64) hx hb hts iX10 tyX10 tyX10_ok nmX10 hown hK hP hD hS 0 rfl rfl 38 (by decide) (hts _ w_849) (fun _ h9 => h9) rfl (tyX10_ok 38 (by decide)) rfl rfl (Nat.le_of_ble_eq_true rfl) dX10_escape_64 (fun H locs hP hD hS => ?_)
            have hP : va_P g.1 vwCl (zm_ws g h ad (zm_s (zm_s (zm_s M 39 0) 38 0) 38 v_64)) H := hP
            have hD : va_D A (zm_ws g h ad (zm_s (zm_s (zm_s M 39 0) 38 0) 38 v_64)) := hD
            refine lv_aload_n hx hb dX10_escape_67 rfl (lv_at hl 0 rfl) ?_
            refine lv_aload_n hx hb dX10_escape_68 rfl (lv_at hl 0 rfl) ?_
            refine va_get (ci := 9) (v := .int v_64) hx hb hts iX10 hown hK hP 0 rfl rfl 38 (by decide) (hts _ w_849) (fun _ h9 => h9) rfl dX10_escape_69 ?_
            refine za_cv (wc := zm_ws g h ad (zm_s (zm_s (zm_s M 39 0) 38 0) 38 v_64)) (wr := []) C hP hD hS [0, 1, 2, 3, 4, 5, 6, 7, 8, 9, 10, 11, 12, 13, 14, 15, 16, 17] [] rfl rfl (by decide) (by decide) (za_runV C hP hD hS [0, 1, 2, 3, 4, 5, 6, 7, 8, 9, 10, 11, 12, 13, 14, 15, 16, 17] rfl (by decide) rfl (kX10_keep l g E h ad (zm_s (zm_s (zm_s M 39 0) 38 0) 38 v_64) v_64 (zm_K_in (n := 0) (M := zm_s M 39 0) hk)) w_1027 mX10_keep 0 rfl rfl rfl rfl hl.1 rfl (Nat.le_of_ble_eq_true rfl) dX10_escape_72 ⟨by decide, by decide⟩ ⟨by decide, by decide⟩) (fun M6 H locs hM6 hP hD hS => ?_)
            have hP : va_P g.1 vwCl (zm_ws g h ad M6) H := hP
            have hD : va_D A (zm_ws g h ad M6) := hD
            refine lv_aload_n hx hb dX10_escape_75 rfl (lv_at hl 0 rfl) ?_
            refine lv_iconst (v := 1) hx hb dX10_escape_76 (by decide) ?_
            refine va_put (ci := 9) (v := .int 1) hx hb hts iX10 tyX10 tyX10_ok nmX10 hown hK hP hD hS 0 rfl rfl 41 (by decide) (hts _ w_852) (fun _ h9 => h9) rfl (tyX10_ok 41 (by decide)) rfl rfl (Nat.le_of_ble_eq_true rfl) dX10_escape_77 (fun H locs hP hD hS => ?_)
            have hP : va_P g.1 vwCl (zm_ws g h ad (zm_s M6 41 1)) H := hP
            have hD : va_D A (zm_ws g h ad (zm_s M6 41 1)) := hD
            refine lv_goto (tgt := 194) hx hb dX10_escape_80 (by decide) ?_
            subst hM6
            subst hv_64
            exact zm_rv hQ hx hb hr hlocks hK hP hD hS (by simp [zm_escape, zq_upd, c_10, eq_true c_20, c_37]) dX10_escape_194
          refine lv_iload_n hx hb dX10_escape_49 rfl (lv_at hl 2 rfl) ?_
          refine lv_bipush (v := 8) hx hb dX10_escape_50 (by decide) ?_
          refine za_icmp_ge (tgt := 63) hx hb dX10_escape_52 (by decide) (fun c_52 => ?_) (fun c_52 => ?_)
          · exact absurd c_37 c_52
          · refine va_gets hx hb hE.2.2.2.2.2.2.2.2.2.1 hS hown (hts _ w_1080) (fun _ h9 => h9) dX10_escape_55 ?_
            refine lv_iload_n hx hb dX10_escape_58 rfl (lv_at hl 2 rfl) ?_
            refine va_ti hx hb hE.2.2.2.2.2.2.2.2.2.2 hS (zr_short_in c_52) rfl dX10_escape_59 ?_
            refine lv_goto (tgt := 64) hx hb dX10_escape_60 (by decide) ?_
            exact J_64 (zs_mea.getD (zr_short x).toNatClampNeg 0) (by simp [zr_sv, c_10, eq_true c_20, c_37, c_52])
        · refine lv_iload_n hx hb dX10_escape_40 rfl (lv_at hl 1 rfl) ?_
          refine lv_aload_n hx hb dX10_escape_41 rfl (lv_at hl 0 rfl) ?_
          refine va_get (ci := 9) (v := .int (M.1 32)) hx hb hts iX10 hown hK hP 0 rfl rfl 32 (by decide) (hts _ w_843) (fun _ h9 => h9) rfl dX10_escape_42 ?_
          refine lv_icmp_ne (tgt := 83) hx hb dX10_escape_45 (by decide) (fun c_45 => ?_) (fun c_45 => ?_)
          · refine lv_iload_n hx hb dX10_escape_83 rfl (lv_at hl 1 rfl) ?_
            refine lv_bipush (v := 48) hx hb dX10_escape_84 (by decide) ?_
            refine lv_icmp_lt (tgt := 122) hx hb dX10_escape_86 (by decide) (fun c_86 => ?_) (fun c_86 => ?_)
            · refine lv_iload_n hx hb dX10_escape_122 rfl (lv_at hl 1 rfl) ?_
              refine lv_bipush (v := 120) hx hb dX10_escape_123 (by decide) ?_
              refine lv_icmp_eq (tgt := 140) hx hb dX10_escape_125 (by decide) (fun c_125 => ?_) (fun c_125 => ?_)
              · refine lv_aload_n hx hb dX10_escape_140 rfl (lv_at hl 0 rfl) ?_
                have J_163 : ∀ v : Int32, v = (zr_dg x) → W p l e (za_R 4 0 0) s m args below meth co H locs 0 0 Q (F0 m 163 ls (.int v :: [.ref h])) := by
                  intro v_163 hv_163
                  refine va_put (ci := 9) (v := .int v_163) hx hb hts iX10 tyX10 tyX10_ok nmX10 hown hK hP hD hS 0 rfl rfl 36 (by decide) (hts _ w_847) (fun _ h9 => h9) rfl (tyX10_ok 36 (by decide)) rfl rfl (Nat.le_of_ble_eq_true rfl) dX10_escape_163 (fun H locs hP hD hS => ?_)
                  have hP : va_P g.1 vwCl (zm_ws g h ad (zm_s (zm_s (zm_s M 39 0) 38 0) 36 v_163)) H := hP
                  have hD : va_D A (zm_ws g h ad (zm_s (zm_s (zm_s M 39 0) 38 0) 36 v_163)) := hD
                  refine lv_aload_n hx hb dX10_escape_166 rfl (lv_at hl 0 rfl) ?_
                  refine lv_bipush (v := 16) hx hb dX10_escape_167 (by decide) ?_
                  refine va_put (ci := 9) (v := .int 16) hx hb hts iX10 tyX10 tyX10_ok nmX10 hown hK hP hD hS 0 rfl rfl 37 (by decide) (hts _ w_848) (fun _ h9 => h9) rfl (tyX10_ok 37 (by decide)) rfl rfl (Nat.le_of_ble_eq_true rfl) dX10_escape_169 (fun H locs hP hD hS => ?_)
                  have hP : va_P g.1 vwCl (zm_ws g h ad (zm_s (zm_s (zm_s (zm_s M 39 0) 38 0) 36 v_163) 37 16)) H := hP
                  have hD : va_D A (zm_ws g h ad (zm_s (zm_s (zm_s (zm_s M 39 0) 38 0) 36 v_163) 37 16)) := hD
                  refine lv_aload_n hx hb dX10_escape_172 rfl (lv_at hl 0 rfl) ?_
                  have J_184 : ∀ v : Int32, v = (zr_ib x) → W p l e (za_R 4 0 0) s m args below meth co H locs 0 0 Q (F0 m 184 ls (.int v :: [.ref h])) := by
                    intro v_184 hv_184
                    refine va_put (ci := 9) (v := .int v_184) hx hb hts iX10 tyX10 tyX10_ok nmX10 hown hK hP hD hS 0 rfl rfl 40 (by decide) (hts _ w_851) (fun _ h9 => h9) rfl (tyX10_ok 40 (by decide)) (by rw [hv_184]; exact (zr_ib_fit x).1) (by rw [hv_184]; exact (zr_ib_fit x).2) (Nat.le_of_ble_eq_true rfl) dX10_escape_184 (fun H locs hP hD hS => ?_)
                    have hP : va_P g.1 vwCl (zm_ws g h ad (zm_s (zm_s (zm_s (zm_s (zm_s M 39 0) 38 0) 36 v_163) 37 16) 40 v_184)) H := hP
                    have hD : va_D A (zm_ws g h ad (zm_s (zm_s (zm_s (zm_s (zm_s M 39 0) 38 0) 36 v_163) 37 16) 40 v_184)) := hD
                    refine lv_goto (tgt := 194) hx hb dX10_escape_187 (by decide) ?_
                    subst hv_184
                    subst hv_163
                    exact zm_rv hQ hx hb hr hlocks hK hP hD hS (by simp [zm_escape, zq_upd, c_10, eq_true c_20, c_37, c_45, c_86, eq_true c_125]) dX10_escape_194
                  refine lv_iload_n hx hb dX10_escape_173 rfl (lv_at hl 1 rfl) ?_
                  refine lv_bipush (v := 120) hx hb dX10_escape_174 (by decide) ?_
                  refine lv_icmp_ne (tgt := 183) hx hb dX10_escape_176 (by decide) (fun c_176 => ?_) (fun c_176 => ?_)
                  · exact absurd c_125 c_176
                  · refine lv_iconst (v := 1) hx hb dX10_escape_179 (by decide) ?_
                    refine lv_goto (tgt := 184) hx hb dX10_escape_180 (by decide) ?_
                    exact J_184 1 (by simp [zr_ib, c_10, eq_true c_20, c_37, c_45, c_86, eq_true c_125, eq_true c_176])
                refine lv_iload_n hx hb dX10_escape_141 rfl (lv_at hl 1 rfl) ?_
                refine lv_bipush (v := 120) hx hb dX10_escape_142 (by decide) ?_
                refine lv_icmp_ne (tgt := 151) hx hb dX10_escape_144 (by decide) (fun c_144 => ?_) (fun c_144 => ?_)
                · exact absurd c_125 c_144
                · refine lv_iconst (v := 2) hx hb dX10_escape_147 (by decide) ?_
                  refine lv_goto (tgt := 163) hx hb dX10_escape_148 (by decide) ?_
                  exact J_163 2 (by simp [zr_dg, c_10, eq_true c_20, c_37, c_45, c_86, eq_true c_125, eq_true c_144])
              · refine lv_iload_n hx hb dX10_escape_128 rfl (lv_at hl 1 rfl) ?_
                refine lv_bipush (v := 117) hx hb dX10_escape_129 (by decide) ?_
                refine lv_icmp_eq (tgt := 140) hx hb dX10_escape_131 (by decide) (fun c_131 => ?_) (fun c_131 => ?_)
                · refine lv_aload_n hx hb dX10_escape_140 rfl (lv_at hl 0 rfl) ?_
                  have J_163 : ∀ v : Int32, v = (zr_dg x) → W p l e (za_R 4 0 0) s m args below meth co H locs 0 0 Q (F0 m 163 ls (.int v :: [.ref h])) := by
                    intro v_163 hv_163
                    refine va_put (ci := 9) (v := .int v_163) hx hb hts iX10 tyX10 tyX10_ok nmX10 hown hK hP hD hS 0 rfl rfl 36 (by decide) (hts _ w_847) (fun _ h9 => h9) rfl (tyX10_ok 36 (by decide)) rfl rfl (Nat.le_of_ble_eq_true rfl) dX10_escape_163 (fun H locs hP hD hS => ?_)
                    have hP : va_P g.1 vwCl (zm_ws g h ad (zm_s (zm_s (zm_s M 39 0) 38 0) 36 v_163)) H := hP
                    have hD : va_D A (zm_ws g h ad (zm_s (zm_s (zm_s M 39 0) 38 0) 36 v_163)) := hD
                    refine lv_aload_n hx hb dX10_escape_166 rfl (lv_at hl 0 rfl) ?_
                    refine lv_bipush (v := 16) hx hb dX10_escape_167 (by decide) ?_
                    refine va_put (ci := 9) (v := .int 16) hx hb hts iX10 tyX10 tyX10_ok nmX10 hown hK hP hD hS 0 rfl rfl 37 (by decide) (hts _ w_848) (fun _ h9 => h9) rfl (tyX10_ok 37 (by decide)) rfl rfl (Nat.le_of_ble_eq_true rfl) dX10_escape_169 (fun H locs hP hD hS => ?_)
                    have hP : va_P g.1 vwCl (zm_ws g h ad (zm_s (zm_s (zm_s (zm_s M 39 0) 38 0) 36 v_163) 37 16)) H := hP
                    have hD : va_D A (zm_ws g h ad (zm_s (zm_s (zm_s (zm_s M 39 0) 38 0) 36 v_163) 37 16)) := hD
                    refine lv_aload_n hx hb dX10_escape_172 rfl (lv_at hl 0 rfl) ?_
                    have J_184 : ∀ v : Int32, v = (zr_ib x) → W p l e (za_R 4 0 0) s m args below meth co H locs 0 0 Q (F0 m 184 ls (.int v :: [.ref h])) := by
                      intro v_184 hv_184
                      refine va_put (ci := 9) (v := .int v_184) hx hb hts iX10 tyX10 tyX10_ok nmX10 hown hK hP hD hS 0 rfl rfl 40 (by decide) (hts _ w_851) (fun _ h9 => h9) rfl (tyX10_ok 40 (by decide)) (by rw [hv_184]; exact (zr_ib_fit x).1) (by rw [hv_184]; exact (zr_ib_fit x).2) (Nat.le_of_ble_eq_true rfl) dX10_escape_184 (fun H locs hP hD hS => ?_)
                      have hP : va_P g.1 vwCl (zm_ws g h ad (zm_s (zm_s (zm_s (zm_s (zm_s M 39 0) 38 0) 36 v_163) 37 16) 40 v_184)) H := hP
                      have hD : va_D A (zm_ws g h ad (zm_s (zm_s (zm_s (zm_s (zm_s M 39 0) 38 0) 36 v_163) 37 16) 40 v_184)) := hD
                      refine lv_goto (tgt := 194) hx hb dX10_escape_187 (by decide) ?_
                      subst hv_184
                      subst hv_163
                      exact zm_rv hQ hx hb hr hlocks hK hP hD hS (by simp [zm_escape, zq_upd, c_10, eq_true c_20, c_37, c_45, c_86, c_125, eq_true c_131]) dX10_escape_194
                    refine lv_iload_n hx hb dX10_escape_173 rfl (lv_at hl 1 rfl) ?_
                    refine lv_bipush (v := 120) hx hb dX10_escape_174 (by decide) ?_
                    refine lv_icmp_ne (tgt := 183) hx hb dX10_escape_176 (by decide) (fun c_176 => ?_) (fun c_176 => ?_)
                    · refine lv_iconst (v := 0) hx hb dX10_escape_183 (by decide) ?_
                      exact J_184 0 (by simp [zr_ib, c_10, eq_true c_20, c_37, c_45, c_86, c_125, eq_true c_131, c_176])
                    · exact absurd c_176 c_125
                  refine lv_iload_n hx hb dX10_escape_141 rfl (lv_at hl 1 rfl) ?_
                  refine lv_bipush (v := 120) hx hb dX10_escape_142 (by decide) ?_
                  refine lv_icmp_ne (tgt := 151) hx hb dX10_escape_144 (by decide) (fun c_144 => ?_) (fun c_144 => ?_)
                  · refine lv_iload_n hx hb dX10_escape_151 rfl (lv_at hl 1 rfl) ?_
                    refine lv_bipush (v := 117) hx hb dX10_escape_152 (by decide) ?_
                    refine lv_icmp_ne (tgt := 161) hx hb dX10_escape_154 (by decide) (fun c_154 => ?_) (fun c_154 => ?_)
                    · exact absurd c_131 c_154
                    · refine lv_iconst (v := 4) hx hb dX10_escape_157 (by decide) ?_
                      refine lv_goto (tgt := 163) hx hb dX10_escape_158 (by decide) ?_
                      exact J_163 4 (by simp [zr_dg, c_10, eq_true c_20, c_37, c_45, c_86, c_125, eq_true c_131, c_144, eq_true c_154])
                  · exact absurd c_144 c_125
                · refine lv_iload_n hx hb dX10_escape_134 rfl (lv_at hl 1 rfl) ?_
                  refine lv_bipush (v := 85) hx hb dX10_escape_135 (by decide) ?_
                  refine lv_icmp_ne (tgt := 190) hx hb dX10_escape_137 (by decide) (fun c_137 => ?_) (fun c_137 => ?_)
                  · refine lv_aload_n hx hb dX10_escape_190 rfl (lv_at hl 0 rfl) ?_
                    refine za_cv (wc := zm_ws g h ad (zm_s (zm_s M 39 0) 38 0)) (wr := []) C hP hD hS [0, 1, 2, 3, 4, 5, 6, 7, 8, 9, 10, 11, 12, 13, 14, 15, 16, 17] [] rfl rfl (by decide) (by decide) (za_runV C hP hD hS [0, 1, 2, 3, 4, 5, 6, 7, 8, 9, 10, 11, 12, 13, 14, 15, 16, 17] rfl (by decide) rfl (kX10_error l g E h ad (zm_s (zm_s M 39 0) 38 0)  ) w_1010 mX10_error 0 rfl rfl rfl rfl hl.1 rfl (Nat.le_of_ble_eq_true rfl) dX10_escape_191 ⟨by decide, by decide⟩ ⟨by decide, by decide⟩) (fun M7 H locs hM7 hP hD hS => ?_)
                    have hP : va_P g.1 vwCl (zm_ws g h ad M7) H := hP
                    have hD : va_D A (zm_ws g h ad M7) := hD
                    subst hM7
                    exact zm_rv hQ hx hb hr hlocks hK hP hD hS (by simp [zm_escape, zq_upd, c_10, eq_true c_20, c_37, c_45, c_86, c_125, c_131, c_137]) dX10_escape_194
                  · refine lv_aload_n hx hb dX10_escape_140 rfl (lv_at hl 0 rfl) ?_
                    have J_163 : ∀ v : Int32, v = (zr_dg x) → W p l e (za_R 4 0 0) s m args below meth co H locs 0 0 Q (F0 m 163 ls (.int v :: [.ref h])) := by
                      intro v_163 hv_163
                      refine va_put (ci := 9) (v := .int v_163) hx hb hts iX10 tyX10 tyX10_ok nmX10 hown hK hP hD hS 0 rfl rfl 36 (by decide) (hts _ w_847) (fun _ h9 => h9) rfl (tyX10_ok 36 (by decide)) rfl rfl (Nat.le_of_ble_eq_true rfl) dX10_escape_163 (fun H locs hP hD hS => ?_)
                      have hP : va_P g.1 vwCl (zm_ws g h ad (zm_s (zm_s (zm_s M 39 0) 38 0) 36 v_163)) H := hP
                      have hD : va_D A (zm_ws g h ad (zm_s (zm_s (zm_s M 39 0) 38 0) 36 v_163)) := hD
                      refine lv_aload_n hx hb dX10_escape_166 rfl (lv_at hl 0 rfl) ?_
                      refine lv_bipush (v := 16) hx hb dX10_escape_167 (by decide) ?_
                      refine va_put (ci := 9) (v := .int 16) hx hb hts iX10 tyX10 tyX10_ok nmX10 hown hK hP hD hS 0 rfl rfl 37 (by decide) (hts _ w_848) (fun _ h9 => h9) rfl (tyX10_ok 37 (by decide)) rfl rfl (Nat.le_of_ble_eq_true rfl) dX10_escape_169 (fun H locs hP hD hS => ?_)
                      have hP : va_P g.1 vwCl (zm_ws g h ad (zm_s (zm_s (zm_s (zm_s M 39 0) 38 0) 36 v_163) 37 16)) H := hP
                      have hD : va_D A (zm_ws g h ad (zm_s (zm_s (zm_s (zm_s M 39 0) 38 0) 36 v_163) 37 16)) := hD
                      refine lv_aload_n hx hb dX10_escape_172 rfl (lv_at hl 0 rfl) ?_
                      have J_184 : ∀ v : Int32, v = (zr_ib x) → W p l e (za_R 4 0 0) s m args below meth co H locs 0 0 Q (F0 m 184 ls (.int v :: [.ref h])) := by
                        intro v_184 hv_184
                        refine va_put (ci := 9) (v := .int v_184) hx hb hts iX10 tyX10 tyX10_ok nmX10 hown hK hP hD hS 0 rfl rfl 40 (by decide) (hts _ w_851) (fun _ h9 => h9) rfl (tyX10_ok 40 (by decide)) (by rw [hv_184]; exact (zr_ib_fit x).1) (by rw [hv_184]; exact (zr_ib_fit x).2) (Nat.le_of_ble_eq_true rfl) dX10_escape_184 (fun H locs hP hD hS => ?_)
                        have hP : va_P g.1 vwCl (zm_ws g h ad (zm_s (zm_s (zm_s (zm_s (zm_s M 39 0) 38 0) 36 v_163) 37 16) 40 v_184)) H := hP
                        have hD : va_D A (zm_ws g h ad (zm_s (zm_s (zm_s (zm_s (zm_s M 39 0) 38 0) 36 v_163) 37 16) 40 v_184)) := hD
                        refine lv_goto (tgt := 194) hx hb dX10_escape_187 (by decide) ?_
                        subst hv_184
                        subst hv_163
                        exact zm_rv hQ hx hb hr hlocks hK hP hD hS (by simp [zm_escape, zq_upd, c_10, eq_true c_20, c_37, c_45, c_86, c_125, c_131, eq_true c_137]) dX10_escape_194
                      refine lv_iload_n hx hb dX10_escape_173 rfl (lv_at hl 1 rfl) ?_
                      refine lv_bipush (v := 120) hx hb dX10_escape_174 (by decide) ?_
                      refine lv_icmp_ne (tgt := 183) hx hb dX10_escape_176 (by decide) (fun c_176 => ?_) (fun c_176 => ?_)
                      · refine lv_iconst (v := 0) hx hb dX10_escape_183 (by decide) ?_
                        exact J_184 0 (by simp [zr_ib, c_10, eq_true c_20, c_37, c_45, c_86, c_125, c_131, eq_true c_137, c_176])
                      · exact absurd c_176 c_125
                    refine lv_iload_n hx hb dX10_escape_141 rfl (lv_at hl 1 rfl) ?_
                    refine lv_bipush (v := 120) hx hb dX10_escape_142 (by decide) ?_
                    refine lv_icmp_ne (tgt := 151) hx hb dX10_escape_144 (by decide) (fun c_144 => ?_) (fun c_144 => ?_)
                    · refine lv_iload_n hx hb dX10_escape_151 rfl (lv_at hl 1 rfl) ?_
                      refine lv_bipush (v := 117) hx hb dX10_escape_152 (by decide) ?_
                      refine lv_icmp_ne (tgt := 161) hx hb dX10_escape_154 (by decide) (fun c_154 => ?_) (fun c_154 => ?_)
                      · refine lv_bipush (v := 8) hx hb dX10_escape_161 (by decide) ?_
                        exact J_163 8 (by simp [zr_dg, c_10, eq_true c_20, c_37, c_45, c_86, c_125, c_131, eq_true c_137, c_144, c_154])
                      · exact absurd c_154 c_131
                    · exact absurd c_144 c_125
            · refine lv_iload_n hx hb dX10_escape_89 rfl (lv_at hl 1 rfl) ?_
              refine lv_bipush (v := 51) hx hb dX10_escape_90 (by decide) ?_
              refine lv_icmp_gt (tgt := 122) hx hb dX10_escape_92 (by decide) (fun c_92 => ?_) (fun c_92 => ?_)
              · refine lv_iload_n hx hb dX10_escape_122 rfl (lv_at hl 1 rfl) ?_
                refine lv_bipush (v := 120) hx hb dX10_escape_123 (by decide) ?_
                refine lv_icmp_eq (tgt := 140) hx hb dX10_escape_125 (by decide) (fun c_125 => ?_) (fun c_125 => ?_)
                · refine lv_aload_n hx hb dX10_escape_140 rfl (lv_at hl 0 rfl) ?_
                  have J_163 : ∀ v : Int32, v = (zr_dg x) → W p l e (za_R 4 0 0) s m args below meth co H locs 0 0 Q (F0 m 163 ls (.int v :: [.ref h])) := by
                    intro v_163 hv_163
                    refine va_put (ci := 9) (v := .int v_163) hx hb hts iX10 tyX10 tyX10_ok nmX10 hown hK hP hD hS 0 rfl rfl 36 (by decide) (hts _ w_847) (fun _ h9 => h9) rfl (tyX10_ok 36 (by decide)) rfl rfl (Nat.le_of_ble_eq_true rfl) dX10_escape_163 (fun H locs hP hD hS => ?_)
                    have hP : va_P g.1 vwCl (zm_ws g h ad (zm_s (zm_s (zm_s M 39 0) 38 0) 36 v_163)) H := hP
                    have hD : va_D A (zm_ws g h ad (zm_s (zm_s (zm_s M 39 0) 38 0) 36 v_163)) := hD
                    refine lv_aload_n hx hb dX10_escape_166 rfl (lv_at hl 0 rfl) ?_
                    refine lv_bipush (v := 16) hx hb dX10_escape_167 (by decide) ?_
                    refine va_put (ci := 9) (v := .int 16) hx hb hts iX10 tyX10 tyX10_ok nmX10 hown hK hP hD hS 0 rfl rfl 37 (by decide) (hts _ w_848) (fun _ h9 => h9) rfl (tyX10_ok 37 (by decide)) rfl rfl (Nat.le_of_ble_eq_true rfl) dX10_escape_169 (fun H locs hP hD hS => ?_)
                    have hP : va_P g.1 vwCl (zm_ws g h ad (zm_s (zm_s (zm_s (zm_s M 39 0) 38 0) 36 v_163) 37 16)) H := hP
                    have hD : va_D A (zm_ws g h ad (zm_s (zm_s (zm_s (zm_s M 39 0) 38 0) 36 v_163) 37 16)) := hD
                    refine lv_aload_n hx hb dX10_escape_172 rfl (lv_at hl 0 rfl) ?_
                    have J_184 : ∀ v : Int32, v = (zr_ib x) → W p l e (za_R 4 0 0) s m args below meth co H locs 0 0 Q (F0 m 184 ls (.int v :: [.ref h])) := by
                      intro v_184 hv_184
                      refine va_put (ci := 9) (v := .int v_184) hx hb hts iX10 tyX10 tyX10_ok nmX10 hown hK hP hD hS 0 rfl rfl 40 (by decide) (hts _ w_851) (fun _ h9 => h9) rfl (tyX10_ok 40 (by decide)) (by rw [hv_184]; exact (zr_ib_fit x).1) (by rw [hv_184]; exact (zr_ib_fit x).2) (Nat.le_of_ble_eq_true rfl) dX10_escape_184 (fun H locs hP hD hS => ?_)
                      have hP : va_P g.1 vwCl (zm_ws g h ad (zm_s (zm_s (zm_s (zm_s (zm_s M 39 0) 38 0) 36 v_163) 37 16) 40 v_184)) H := hP
                      have hD : va_D A (zm_ws g h ad (zm_s (zm_s (zm_s (zm_s (zm_s M 39 0) 38 0) 36 v_163) 37 16) 40 v_184)) := hD
                      refine lv_goto (tgt := 194) hx hb dX10_escape_187 (by decide) ?_
                      subst hv_184
                      subst hv_163
                      exact zm_rv hQ hx hb hr hlocks hK hP hD hS (by simp [zm_escape, zq_upd, c_10, eq_true c_20, c_37, c_45, c_86, c_92, eq_true c_125]) dX10_escape_194
                    refine lv_iload_n hx hb dX10_escape_173 rfl (lv_at hl 1 rfl) ?_
                    refine lv_bipush (v := 120) hx hb dX10_escape_174 (by decide) ?_
                    refine lv_icmp_ne (tgt := 183) hx hb dX10_escape_176 (by decide) (fun c_176 => ?_) (fun c_176 => ?_)
                    · exact absurd c_125 c_176
                    · refine lv_iconst (v := 1) hx hb dX10_escape_179 (by decide) ?_
                      refine lv_goto (tgt := 184) hx hb dX10_escape_180 (by decide) ?_
                      exact J_184 1 (by simp [zr_ib, c_10, eq_true c_20, c_37, c_45, c_86, c_92, eq_true c_125, eq_true c_176])
                  refine lv_iload_n hx hb dX10_escape_141 rfl (lv_at hl 1 rfl) ?_
                  refine lv_bipush (v := 120) hx hb dX10_escape_142 (by decide) ?_
                  refine lv_icmp_ne (tgt := 151) hx hb dX10_escape_144 (by decide) (fun c_144 => ?_) (fun c_144 => ?_)
                  · exact absurd c_125 c_144
                  · refine lv_iconst (v := 2) hx hb dX10_escape_147 (by decide) ?_
                    refine lv_goto (tgt := 163) hx hb dX10_escape_148 (by decide) ?_
                    exact J_163 2 (by simp [zr_dg, c_10, eq_true c_20, c_37, c_45, c_86, c_92, eq_true c_125, eq_true c_144])
                · refine lv_iload_n hx hb dX10_escape_128 rfl (lv_at hl 1 rfl) ?_
                  refine lv_bipush (v := 117) hx hb dX10_escape_129 (by decide) ?_
                  refine lv_icmp_eq (tgt := 140) hx hb dX10_escape_131 (by decide) (fun c_131 => ?_) (fun c_131 => ?_)
                  · refine lv_aload_n hx hb dX10_escape_140 rfl (lv_at hl 0 rfl) ?_
                    have J_163 : ∀ v : Int32, v = (zr_dg x) → W p l e (za_R 4 0 0) s m args below meth co H locs 0 0 Q (F0 m 163 ls (.int v :: [.ref h])) := by
                      intro v_163 hv_163
                      refine va_put (ci := 9) (v := .int v_163) hx hb hts iX10 tyX10 tyX10_ok nmX10 hown hK hP hD hS 0 rfl rfl 36 (by decide) (hts _ w_847) (fun _ h9 => h9) rfl (tyX10_ok 36 (by decide)) rfl rfl (Nat.le_of_ble_eq_true rfl) dX10_escape_163 (fun H locs hP hD hS => ?_)
                      have hP : va_P g.1 vwCl (zm_ws g h ad (zm_s (zm_s (zm_s M 39 0) 38 0) 36 v_163)) H := hP
                      have hD : va_D A (zm_ws g h ad (zm_s (zm_s (zm_s M 39 0) 38 0) 36 v_163)) := hD
                      refine lv_aload_n hx hb dX10_escape_166 rfl (lv_at hl 0 rfl) ?_
                      refine lv_bipush (v := 16) hx hb dX10_escape_167 (by decide) ?_
                      refine va_put (ci := 9) (v := .int 16) hx hb hts iX10 tyX10 tyX10_ok nmX10 hown hK hP hD hS 0 rfl rfl 37 (by decide) (hts _ w_848) (fun _ h9 => h9) rfl (tyX10_ok 37 (by decide)) rfl rfl (Nat.le_of_ble_eq_true rfl) dX10_escape_169 (fun H locs hP hD hS => ?_)
                      have hP : va_P g.1 vwCl (zm_ws g h ad (zm_s (zm_s (zm_s (zm_s M 39 0) 38 0) 36 v_163) 37 16)) H := hP
                      have hD : va_D A (zm_ws g h ad (zm_s (zm_s (zm_s (zm_s M 39 0) 38 0) 36 v_163) 37 16)) := hD
                      refine lv_aload_n hx hb dX10_escape_172 rfl (lv_at hl 0 rfl) ?_
                      have J_184 : ∀ v : Int32, v = (zr_ib x) → W p l e (za_R 4 0 0) s m args below meth co H locs 0 0 Q (F0 m 184 ls (.int v :: [.ref h])) := by
                        intro v_184 hv_184
                        refine va_put (ci := 9) (v := .int v_184) hx hb hts iX10 tyX10 tyX10_ok nmX10 hown hK hP hD hS 0 rfl rfl 40 (by decide) (hts _ w_851) (fun _ h9 => h9) rfl (tyX10_ok 40 (by decide)) (by rw [hv_184]; exact (zr_ib_fit x).1) (by rw [hv_184]; exact (zr_ib_fit x).2) (Nat.le_of_ble_eq_true rfl) dX10_escape_184 (fun H locs hP hD hS => ?_)
                        have hP : va_P g.1 vwCl (zm_ws g h ad (zm_s (zm_s (zm_s (zm_s (zm_s M 39 0) 38 0) 36 v_163) 37 16) 40 v_184)) H := hP
                        have hD : va_D A (zm_ws g h ad (zm_s (zm_s (zm_s (zm_s (zm_s M 39 0) 38 0) 36 v_163) 37 16) 40 v_184)) := hD
                        refine lv_goto (tgt := 194) hx hb dX10_escape_187 (by decide) ?_
                        subst hv_184
                        subst hv_163
                        exact zm_rv hQ hx hb hr hlocks hK hP hD hS (by simp [zm_escape, zq_upd, c_10, eq_true c_20, c_37, c_45, c_86, c_92, c_125, eq_true c_131]) dX10_escape_194
                      refine lv_iload_n hx hb dX10_escape_173 rfl (lv_at hl 1 rfl) ?_
                      refine lv_bipush (v := 120) hx hb dX10_escape_174 (by decide) ?_
                      refine lv_icmp_ne (tgt := 183) hx hb dX10_escape_176 (by decide) (fun c_176 => ?_) (fun c_176 => ?_)
                      · refine lv_iconst (v := 0) hx hb dX10_escape_183 (by decide) ?_
                        exact J_184 0 (by simp [zr_ib, c_10, eq_true c_20, c_37, c_45, c_86, c_92, c_125, eq_true c_131, c_176])
                      · exact absurd c_176 c_125
                    refine lv_iload_n hx hb dX10_escape_141 rfl (lv_at hl 1 rfl) ?_
                    refine lv_bipush (v := 120) hx hb dX10_escape_142 (by decide) ?_
                    refine lv_icmp_ne (tgt := 151) hx hb dX10_escape_144 (by decide) (fun c_144 => ?_) (fun c_144 => ?_)
                    · refine lv_iload_n hx hb dX10_escape_151 rfl (lv_at hl 1 rfl) ?_
                      refine lv_bipush (v := 117) hx hb dX10_escape_152 (by decide) ?_
                      refine lv_icmp_ne (tgt := 161) hx hb dX10_escape_154 (by decide) (fun c_154 => ?_) (fun c_154 => ?_)
                      · exact absurd c_131 c_154
                      · refine lv_iconst (v := 4) hx hb dX10_escape_157 (by decide) ?_
                        refine lv_goto (tgt := 163) hx hb dX10_escape_158 (by decide) ?_
                        exact J_163 4 (by simp [zr_dg, c_10, eq_true c_20, c_37, c_45, c_86, c_92, c_125, eq_true c_131, c_144, eq_true c_154])
                    · exact absurd c_144 c_125
                  · refine lv_iload_n hx hb dX10_escape_134 rfl (lv_at hl 1 rfl) ?_
                    refine lv_bipush (v := 85) hx hb dX10_escape_135 (by decide) ?_
                    refine lv_icmp_ne (tgt := 190) hx hb dX10_escape_137 (by decide) (fun c_137 => ?_) (fun c_137 => ?_)
                    · refine lv_aload_n hx hb dX10_escape_190 rfl (lv_at hl 0 rfl) ?_
                      refine za_cv (wc := zm_ws g h ad (zm_s (zm_s M 39 0) 38 0)) (wr := []) C hP hD hS [0, 1, 2, 3, 4, 5, 6, 7, 8, 9, 10, 11, 12, 13, 14, 15, 16, 17] [] rfl rfl (by decide) (by decide) (za_runV C hP hD hS [0, 1, 2, 3, 4, 5, 6, 7, 8, 9, 10, 11, 12, 13, 14, 15, 16, 17] rfl (by decide) rfl (kX10_error l g E h ad (zm_s (zm_s M 39 0) 38 0)  ) w_1010 mX10_error 0 rfl rfl rfl rfl hl.1 rfl (Nat.le_of_ble_eq_true rfl) dX10_escape_191 ⟨by decide, by decide⟩ ⟨by decide, by decide⟩) (fun M8 H locs hM8 hP hD hS => ?_)
                      have hP : va_P g.1 vwCl (zm_ws g h ad M8) H := hP
                      have hD : va_D A (zm_ws g h ad M8) := hD
                      subst hM8
                      exact zm_rv hQ hx hb hr hlocks hK hP hD hS (by simp [zm_escape, zq_upd, c_10, eq_true c_20, c_37, c_45, c_86, c_92, c_125, c_131, c_137]) dX10_escape_194
                    · refine lv_aload_n hx hb dX10_escape_140 rfl (lv_at hl 0 rfl) ?_
                      have J_163 : ∀ v : Int32, v = (zr_dg x) → W p l e (za_R 4 0 0) s m args below meth co H locs 0 0 Q (F0 m 163 ls (.int v :: [.ref h])) := by
                        intro v_163 hv_163
                        refine va_put (ci := 9) (v := .int v_163) hx hb hts iX10 tyX10 tyX10_ok nmX10 hown hK hP hD hS 0 rfl rfl 36 (by decide) (hts _ w_847) (fun _ h9 => h9) rfl (tyX10_ok 36 (by decide)) rfl rfl (Nat.le_of_ble_eq_true rfl) dX10_escape_163 (fun H locs hP hD hS => ?_)
                        have hP : va_P g.1 vwCl (zm_ws g h ad (zm_s (zm_s (zm_s M 39 0) 38 0) 36 v_163)) H := hP
                        have hD : va_D A (zm_ws g h ad (zm_s (zm_s (zm_s M 39 0) 38 0) 36 v_163)) := hD
                        refine lv_aload_n hx hb dX10_escape_166 rfl (lv_at hl 0 rfl) ?_
                        refine lv_bipush (v := 16) hx hb dX10_escape_167 (by decide) ?_
                        refine va_put (ci := 9) (v := .int 16) hx hb hts iX10 tyX10 tyX10_ok nmX10 hown hK hP hD hS 0 rfl rfl 37 (by decide) (hts _ w_848) (fun _ h9 => h9) rfl (tyX10_ok 37 (by decide)) rfl rfl (Nat.le_of_ble_eq_true rfl) dX10_escape_169 (fun H locs hP hD hS => ?_)
                        have hP : va_P g.1 vwCl (zm_ws g h ad (zm_s (zm_s (zm_s (zm_s M 39 0) 38 0) 36 v_163) 37 16)) H := hP
                        have hD : va_D A (zm_ws g h ad (zm_s (zm_s (zm_s (zm_s M 39 0) 38 0) 36 v_163) 37 16)) := hD
                        refine lv_aload_n hx hb dX10_escape_172 rfl (lv_at hl 0 rfl) ?_
                        have J_184 : ∀ v : Int32, v = (zr_ib x) → W p l e (za_R 4 0 0) s m args below meth co H locs 0 0 Q (F0 m 184 ls (.int v :: [.ref h])) := by
                          intro v_184 hv_184
                          refine va_put (ci := 9) (v := .int v_184) hx hb hts iX10 tyX10 tyX10_ok nmX10 hown hK hP hD hS 0 rfl rfl 40 (by decide) (hts _ w_851) (fun _ h9 => h9) rfl (tyX10_ok 40 (by decide)) (by rw [hv_184]; exact (zr_ib_fit x).1) (by rw [hv_184]; exact (zr_ib_fit x).2) (Nat.le_of_ble_eq_true rfl) dX10_escape_184 (fun H locs hP hD hS => ?_)
                          have hP : va_P g.1 vwCl (zm_ws g h ad (zm_s (zm_s (zm_s (zm_s (zm_s M 39 0) 38 0) 36 v_163) 37 16) 40 v_184)) H := hP
                          have hD : va_D A (zm_ws g h ad (zm_s (zm_s (zm_s (zm_s (zm_s M 39 0) 38 0) 36 v_163) 37 16) 40 v_184)) := hD
                          refine lv_goto (tgt := 194) hx hb dX10_escape_187 (by decide) ?_
                          subst hv_184
                          subst hv_163
                          exact zm_rv hQ hx hb hr hlocks hK hP hD hS (by simp [zm_escape, zq_upd, c_10, eq_true c_20, c_37, c_45, c_86, c_92, c_125, c_131, eq_true c_137]) dX10_escape_194
                        refine lv_iload_n hx hb dX10_escape_173 rfl (lv_at hl 1 rfl) ?_
                        refine lv_bipush (v := 120) hx hb dX10_escape_174 (by decide) ?_
                        refine lv_icmp_ne (tgt := 183) hx hb dX10_escape_176 (by decide) (fun c_176 => ?_) (fun c_176 => ?_)
                        · refine lv_iconst (v := 0) hx hb dX10_escape_183 (by decide) ?_
                          exact J_184 0 (by simp [zr_ib, c_10, eq_true c_20, c_37, c_45, c_86, c_92, c_125, c_131, eq_true c_137, c_176])
                        · exact absurd c_176 c_125
                      refine lv_iload_n hx hb dX10_escape_141 rfl (lv_at hl 1 rfl) ?_
                      refine lv_bipush (v := 120) hx hb dX10_escape_142 (by decide) ?_
                      refine lv_icmp_ne (tgt := 151) hx hb dX10_escape_144 (by decide) (fun c_144 => ?_) (fun c_144 => ?_)
                      · refine lv_iload_n hx hb dX10_escape_151 rfl (lv_at hl 1 rfl) ?_
                        refine lv_bipush (v := 117) hx hb dX10_escape_152 (by decide) ?_
                        refine lv_icmp_ne (tgt := 161) hx hb dX10_escape_154 (by decide) (fun c_154 => ?_) (fun c_154 => ?_)
                        · refine lv_bipush (v := 8) hx hb dX10_escape_161 (by decide) ?_
                          exact J_163 8 (by simp [zr_dg, c_10, eq_true c_20, c_37, c_45, c_86, c_92, c_125, c_131, eq_true c_137, c_144, c_154])
                        · exact absurd c_154 c_131
                      · exact absurd c_144 c_125
              · refine lv_aload_n hx hb dX10_escape_95 rfl (lv_at hl 0 rfl) ?_
                refine lv_iconst (v := 2) hx hb dX10_escape_96 (by decide) ?_
                refine va_put (ci := 9) (v := .int 2) hx hb hts iX10 tyX10 tyX10_ok nmX10 hown hK hP hD hS 0 rfl rfl 36 (by decide) (hts _ w_847) (fun _ h9 => h9) rfl (tyX10_ok 36 (by decide)) rfl rfl (Nat.le_of_ble_eq_true rfl) dX10_escape_97 (fun H locs hP hD hS => ?_)
                have hP : va_P g.1 vwCl (zm_ws g h ad (zm_s (zm_s (zm_s M 39 0) 38 0) 36 2)) H := hP
                have hD : va_D A (zm_ws g h ad (zm_s (zm_s (zm_s M 39 0) 38 0) 36 2)) := hD
                refine lv_aload_n hx hb dX10_escape_100 rfl (lv_at hl 0 rfl) ?_
                refine lv_bipush (v := 8) hx hb dX10_escape_101 (by decide) ?_
                refine va_put (ci := 9) (v := .int 8) hx hb hts iX10 tyX10 tyX10_ok nmX10 hown hK hP hD hS 0 rfl rfl 37 (by decide) (hts _ w_848) (fun _ h9 => h9) rfl (tyX10_ok 37 (by decide)) rfl rfl (Nat.le_of_ble_eq_true rfl) dX10_escape_103 (fun H locs hP hD hS => ?_)
                have hP : va_P g.1 vwCl (zm_ws g h ad (zm_s (zm_s (zm_s (zm_s M 39 0) 38 0) 36 2) 37 8)) H := hP
                have hD : va_D A (zm_ws g h ad (zm_s (zm_s (zm_s (zm_s M 39 0) 38 0) 36 2) 37 8)) := hD
                refine lv_aload_n hx hb dX10_escape_106 rfl (lv_at hl 0 rfl) ?_
                refine lv_iload_n hx hb dX10_escape_107 rfl (lv_at hl 1 rfl) ?_
                refine lv_bipush (v := 48) hx hb dX10_escape_108 (by decide) ?_
                refine lv_isub hx hb dX10_escape_110 ?_
                refine va_put (ci := 9) (v := .int (x - 48)) hx hb hts iX10 tyX10 tyX10_ok nmX10 hown hK hP hD hS 0 rfl rfl 38 (by decide) (hts _ w_849) (fun _ h9 => h9) rfl (tyX10_ok 38 (by decide)) rfl rfl (Nat.le_of_ble_eq_true rfl) dX10_escape_111 (fun H locs hP hD hS => ?_)
                have hP : va_P g.1 vwCl (zm_ws g h ad (zm_s (zm_s (zm_s (zm_s (zm_s M 39 0) 38 0) 36 2) 37 8) 38 (x - 48))) H := hP
                have hD : va_D A (zm_ws g h ad (zm_s (zm_s (zm_s (zm_s (zm_s M 39 0) 38 0) 36 2) 37 8) 38 (x - 48))) := hD
                refine lv_aload_n hx hb dX10_escape_114 rfl (lv_at hl 0 rfl) ?_
                refine lv_iconst (v := 1) hx hb dX10_escape_115 (by decide) ?_
                refine va_put (ci := 9) (v := .int 1) hx hb hts iX10 tyX10 tyX10_ok nmX10 hown hK hP hD hS 0 rfl rfl 40 (by decide) (hts _ w_851) (fun _ h9 => h9) rfl (tyX10_ok 40 (by decide)) rfl rfl (Nat.le_of_ble_eq_true rfl) dX10_escape_116 (fun H locs hP hD hS => ?_)
                have hP : va_P g.1 vwCl (zm_ws g h ad (zm_s (zm_s (zm_s (zm_s (zm_s (zm_s M 39 0) 38 0) 36 2) 37 8) 38 (x - 48)) 40 1)) H := hP
                have hD : va_D A (zm_ws g h ad (zm_s (zm_s (zm_s (zm_s (zm_s (zm_s M 39 0) 38 0) 36 2) 37 8) 38 (x - 48)) 40 1)) := hD
                refine lv_goto (tgt := 194) hx hb dX10_escape_119 (by decide) ?_
                exact zm_rv hQ hx hb hr hlocks hK hP hD hS (by simp [zm_escape, zq_upd, c_10, eq_true c_20, c_37, c_45, c_86, c_92]) dX10_escape_194
          · refine lv_aload_n hx hb dX10_escape_48 rfl (lv_at hl 0 rfl) ?_
            have J_64 : ∀ v : Int32, v = (zr_sv x) → W p l e (za_R 4 0 0) s m args below meth co H locs 0 0 Q (F0 m 64 ls (.int v :: [.ref h])) := by
              intro v_64 hv_64
              refine va_put (ci := 9) (v := .int v_64) hx hb hts iX10 tyX10 tyX10_ok nmX10 hown hK hP hD hS 0 rfl rfl 38 (by decide) (hts _ w_849) (fun _ h9 => h9) rfl (tyX10_ok 38 (by decide)) rfl rfl (Nat.le_of_ble_eq_true rfl) dX10_escape_64 (fun H locs hP hD hS => ?_)
              have hP : va_P g.1 vwCl (zm_ws g h ad (zm_s (zm_s (zm_s M 39 0) 38 0) 38 v_64)) H := hP
              have hD : va_D A (zm_ws g h ad (zm_s (zm_s (zm_s M 39 0) 38 0) 38 v_64)) := hD
              refine lv_aload_n hx hb dX10_escape_67 rfl (lv_at hl 0 rfl) ?_
              refine lv_aload_n hx hb dX10_escape_68 rfl (lv_at hl 0 rfl) ?_
              refine va_get (ci := 9) (v := .int v_64) hx hb hts iX10 hown hK hP 0 rfl rfl 38 (by decide) (hts _ w_849) (fun _ h9 => h9) rfl dX10_escape_69 ?_
              refine za_cv (wc := zm_ws g h ad (zm_s (zm_s (zm_s M 39 0) 38 0) 38 v_64)) (wr := []) C hP hD hS [0, 1, 2, 3, 4, 5, 6, 7, 8, 9, 10, 11, 12, 13, 14, 15, 16, 17] [] rfl rfl (by decide) (by decide) (za_runV C hP hD hS [0, 1, 2, 3, 4, 5, 6, 7, 8, 9, 10, 11, 12, 13, 14, 15, 16, 17] rfl (by decide) rfl (kX10_keep l g E h ad (zm_s (zm_s (zm_s M 39 0) 38 0) 38 v_64) v_64 (zm_K_in (n := 0) (M := zm_s M 39 0) hk)) w_1027 mX10_keep 0 rfl rfl rfl rfl hl.1 rfl (Nat.le_of_ble_eq_true rfl) dX10_escape_72 ⟨by decide, by decide⟩ ⟨by decide, by decide⟩) (fun M9 H locs hM9 hP hD hS => ?_)
              have hP : va_P g.1 vwCl (zm_ws g h ad M9) H := hP
              have hD : va_D A (zm_ws g h ad M9) := hD
              refine lv_aload_n hx hb dX10_escape_75 rfl (lv_at hl 0 rfl) ?_
              refine lv_iconst (v := 1) hx hb dX10_escape_76 (by decide) ?_
              refine va_put (ci := 9) (v := .int 1) hx hb hts iX10 tyX10 tyX10_ok nmX10 hown hK hP hD hS 0 rfl rfl 41 (by decide) (hts _ w_852) (fun _ h9 => h9) rfl (tyX10_ok 41 (by decide)) rfl rfl (Nat.le_of_ble_eq_true rfl) dX10_escape_77 (fun H locs hP hD hS => ?_)
              have hP : va_P g.1 vwCl (zm_ws g h ad (zm_s M9 41 1)) H := hP
              have hD : va_D A (zm_ws g h ad (zm_s M9 41 1)) := hD
              refine lv_goto (tgt := 194) hx hb dX10_escape_80 (by decide) ?_
              subst hM9
              subst hv_64
              exact zm_rv hQ hx hb hr hlocks hK hP hD hS (by simp [zm_escape, zq_upd, c_10, eq_true c_20, c_37, eq_true c_45]) dX10_escape_194
            refine lv_iload_n hx hb dX10_escape_49 rfl (lv_at hl 2 rfl) ?_
            refine lv_bipush (v := 8) hx hb dX10_escape_50 (by decide) ?_
            refine za_icmp_ge (tgt := 63) hx hb dX10_escape_52 (by decide) (fun c_52 => ?_) (fun c_52 => ?_)
            · refine lv_iload_n hx hb dX10_escape_63 rfl (lv_at hl 1 rfl) ?_
              exact J_64 x (by simp [zr_sv, c_10, eq_true c_20, c_37, eq_true c_45, c_52])
            · exact absurd c_52 c_37
      · refine lv_iinc (v := nI (j + 1)) (lv' := [(2, .int (nI (j + 1))), (0, .ref h), (1, .int x)]) hx hb dX10_escape_23 hl (k := 2) rfl (nI_1 j) (by decide) rfl (fun ls hl => ?_)
        refine lv_goto (tgt := 7) hx hb dX10_escape_26 (by decide) ?_
        have hn9 : ∀ t, t < j + 1 → ¬ zs_ch 7 (nI t) = x := by
          intro t ht
          rcases Nat.lt_or_ge t j with q | q
          · exact hn t q
          · have e9 : t = j := by omega
            rw [e9]
            exact c_20
        exact ih (j + 1) (hj9) (hn9) (by omega) H locs ls hS hP hD (lv_sub hl [1, 2, 0] rfl)
set_option maxHeartbeats 4000000 in
set_option maxRecDepth 100000 in
theorem kX10_escape (l : Launch) (g : za_G) (E : za_E) (h : Nat) (ad : Nat → Nat) (M : zm_M) (x : Int32) (hk : zm_K M 1) : za_Cv l g E yX10_escape cX10_escape 3 4 0 0 [.ref h, .int x] (zm_ws g h ad M) (fun u : zm_M => u = zm_escape M x) (fun u => zm_ws g h ad u) := by
  refine za_begin (by decide) (Nat.le_of_ble_eq_true rfl) RX10 rfl ?_
  intro p e s m args below meth co A ls Q H locs C hQ hr hlocks hnm hS hP hD hl
  obtain ⟨hx, hb, hml, hown, hts, hK, hA, hE⟩ := id C
  have hl : lv_has ls 3 [(0, .ref h), (1, .int x)] := hl
  refine lv_aload_n hx hb dX10_escape_0 rfl (lv_at hl 0 rfl) ?_
  refine lv_iconst (v := 0) hx hb dX10_escape_1 (by decide) ?_
  refine va_put (ci := 9) (v := .int 0) hx hb hts iX10 tyX10 tyX10_ok nmX10 hown hK hP hD hS 0 rfl rfl 39 (by decide) (hts _ w_850) (fun _ h9 => h9) rfl (tyX10_ok 39 (by decide)) rfl rfl (Nat.le_of_ble_eq_true rfl) dX10_escape_2 (fun H locs hP hD hS => ?_)
  have hP : va_P g.1 vwCl (zm_ws g h ad (zm_s M 39 0)) H := hP
  have hD : va_D A (zm_ws g h ad (zm_s M 39 0)) := hD
  refine lv_iconst (v := 0) hx hb dX10_escape_5 (by decide) ?_
  refine lv_istore_n (lv' := [(2, .int 0), (0, .ref h), (1, .int x)]) hx hb dX10_escape_6 rfl hl (by decide) rfl (fun ls hl => ?_)
  exact kL_escape l g E h ad M x hk C hQ hr hlocks _ 0 (by decide) (fun t ht => absurd ht (Nat.not_lt_zero _)) (Nat.lt_succ_self _) H locs ls hS hP hD (lv_sub hl [1, 2, 0] rfl)
