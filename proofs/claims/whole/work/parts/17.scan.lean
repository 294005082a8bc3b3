def zm_scan0 (M : zm_M) : zm_M := zm_s (zm_s (zm_s (zm_s (zm_s (zm_s (zm_s (zm_s M 0 0) 3 0) 17 0) 15 0) 30 (-1)) 28 1) 29 0) 21 0
def zm_heads (M : zm_M) : Nat → zm_M
  | 0 => M
  | n + 1 => zm_a (zm_heads M n) 20 (nI n) (-1)
def zm_scanB (M : zm_M) : zm_M := zm_s (zm_heads (zm_scan0 M) 4096) 27 0
def zm_lf (M : zm_M) (x : Int32) : zm_M := if x = 10 then zm_s (zm_s M 28 (M.1 28 + 1)) 29 (M.1 27 + 1) else M
/-- behind a byte -/
def zm_fin (M : zm_M) (x : Int32) : zm_M := zm_s (zm_lf M x) 27 ((zm_lf M x).1 27 + 1)
def zm_turn (M : zm_M) : zm_M := zm_fin (zm_step M (zr_here M)) (zr_here M)
def zm_go (M : zm_M) : Prop := ¬ M.1 2 < M.1 27 ∧ M.1 30 < 0
/-- what a step needs -/
def zm_ok (M : zm_M) : Prop := ∃ k D : Nat, zm_T M ∧ (M.1 21 = 1 → zm_B M ∧ M.1 23 < M.1 27 ∧ zm_N M) ∧ (¬ M.1 21 < 2 → ¬ 11 < M.1 21 → zm_B M ∧ (M.1 21 = 11 → vp_in (M.1 27 - 1) 65536)) ∧ (M.1 21 = 14 ∨ M.1 21 = 17 → M.1 27 - M.1 23 = nI k ∧ k < 65536 ∧ ∀ j : Nat, j < k → vp_in (M.1 23 + nI j) 65536) ∧ ((M.1 21 = 15 ∨ M.1 21 = 16 ∨ (¬ M.1 21 = 0 ∧ ¬ M.1 21 = 1 ∧ (M.1 21 < 2 ∨ 11 < M.1 21) ∧ ¬ M.1 21 = 12 ∧ ¬ M.1 21 = 13 ∧ ¬ M.1 21 = 14 ∧ ¬ M.1 21 = 17)) → ¬ M.1 23 < 0 ∧ zm_K M 4 ∧ (0 < M.1 36 → M.1 36 - 1 = nI D) ∧ D < 100)
/-- n bytes from M on, to F -/
def zm_run : Nat → zm_M → zm_M → Prop
  | 0, M, F => ¬ zm_go M ∧ F = M
  | n + 1, M, F => zm_go M ∧ (M.1 27 < M.1 2 → vp_in (M.1 27) 65536) ∧ zm_ok M ∧ zm_run n (zm_turn M) F
theorem zm_run_stop {n : Nat} {X F : zm_M} (h : zm_run n X F) (hg : X.1 2 < X.1 27 ∨ ¬ X.1 30 < 0) : F = X := by
  cases n with
  | zero => exact h.2
  | succ n =>
    exfalso
    rcases hg with hg | hg
    · exact h.1.1 hg
    · exact hg h.1.2
theorem zm_run_go {n : Nat} {X F : zm_M} (h : zm_run n X F) (h1 : ¬ X.1 2 < X.1 27) (h2 : X.1 30 < 0) : ∃ m : Nat, n = m + 1 ∧ (X.1 27 < X.1 2 → vp_in (X.1 27) 65536) ∧ zm_ok X ∧ zm_run m (zm_turn X) F := by
  cases n with
  | zero => exact absurd ⟨h1, h2⟩ h.1
  | succ n => exact ⟨n, rfl, h.2.1, h.2.2.1, h.2.2.2⟩
def zm_scanE (F : zm_M) : zm_M := if F.1 30 < 0 then zm_s F 2 0 else zm_s (zm_s (zm_s F 2 0) 3 0) 17 0
def zr_scan (F : zm_M) : Int32 := if F.1 30 < 0 then F.1 3 else -1 - F.1 30
set_option maxHeartbeats 4000000 in
set_option maxRecDepth 100000 in
theorem kL_scanM (l : Launch) (g : za_G) (E : za_E) (h : Nat) (ad : Nat → Nat) (M : zm_M) (F : zm_M)  {p : Program} {e : Env} {s : State} {m : MethodId} {args : Array Value} {below : List Frame} {meth : Method} {co : Code} {A : Nat → Prop} {Q : State → Prop} (C : za_H p s m args co cX10_scan 2 RX10 g E A) (hQ : Q = MQ below (za_qi g (fun r (u : zm_M) => r = zr_scan F ∧ u = zm_scanE F) (fun u => zm_ws g h ad u) A) args s 0 0 A) (hr : meth.sig.returnType = (some .int)) (hlocks : meth.locks = false)  : ∀ (n_ : Nat) (n9 : Nat) (X : zm_M), (zm_run n9 X F) → n9 < n_ → ∀ (H : Heap) (locs : List Loc) (ls : Array Slot), va_S A s.heap H locs → va_P g.1 vwCl (zm_ws g h ad X) H → va_D A (zm_ws g h ad X) → lv_has ls 2 [(0, .ref h)] → W p l e (za_R 9 0 0) s m args below meth co H locs 0 0 Q (F0 m 67 ls []) := by
  obtain ⟨hx, hb, hml, hown, hts, hK, hA, hE⟩ := id C
  intro n_
  induction n_ with
  | zero => intro n9 X hrun hm; exact absurd hm (Nat.not_lt_zero _)
  | succ n_ ih =>
    intro n9 X hrun hm H locs ls hS hP hD hl
    refine lv_aload_n hx hb dX10_scan_67 rfl (lv_at hl 0 rfl) ?_
    refine va_get (ci := 9) (v := .int (X.1 27)) hx hb hts iX10 hown hK hP 0 rfl rfl 27 (by decide) (hts _ w_838) (fun _ h9 => h9) rfl dX10_scan_68 ?_
    refine lv_aload_n hx hb dX10_scan_71 rfl (lv_at hl 0 rfl) ?_
    refine va_get (ci := 9) (v := .int (X.1 2)) hx hb hts iX10 hown hK hP 0 rfl rfl 2 (by decide) (hts _ w_813) (fun _ h9 => h9) rfl dX10_scan_72 ?_
    refine lv_icmp_gt (tgt := 153) hx hb dX10_scan_75 (by decide) (fun c_75 => ?_) (fun c_75 => ?_)
    · have hF9 : F = X := zm_run_stop hrun (Or.inl c_75)
      refine lv_aload_n hx hb dX10_scan_153 rfl (lv_at hl 0 rfl) ?_
      refine lv_iconst (v := 0) hx hb dX10_scan_154 (by decide) ?_
      refine va_put (ci := 9) (fs := zm_fs ad X.1) (v := .int 0) hx hb hts iX10 tyX10 tyX10_ok nmX10 hown hK hP hD hS 0 rfl rfl 2 (by decide) (hts _ w_813) (fun _ h9 => h9) rfl (tyX10_ok 2 (by decide)) rfl rfl (Nat.le_of_ble_eq_true rfl) dX10_scan_155 (fun H locs hP hD hS => ?_)
      have hP := zm_pf2 (X := X) hP
      have hD := zm_df2 (X := X) hD
      refine lv_aload_n hx hb dX10_scan_158 rfl (lv_at hl 0 rfl) ?_
      refine va_get (ci := 9) (v := .int (X.1 30)) hx hb hts iX10 hown hK hP 0 rfl rfl 30 (by decide) (hts _ w_841) (fun _ h9 => h9) rfl dX10_scan_159 ?_
      refine za_if_ge (tgt := 170) hx hb dX10_scan_162 (by decide) (fun c_162 => ?_) (fun c_162 => ?_)
      · refine lv_aload_n hx hb dX10_scan_170 rfl (lv_at hl 0 rfl) ?_
        refine lv_iconst (v := 0) hx hb dX10_scan_171 (by decide) ?_
        refine va_put (ci := 9) (fs := zm_fs ad (zm_s X 2 0).1) (v := .int 0) hx hb hts iX10 tyX10 tyX10_ok nmX10 hown hK hP hD hS 0 rfl rfl 3 (by decide) (hts _ w_814) (fun _ h9 => h9) rfl (tyX10_ok 3 (by decide)) rfl rfl (Nat.le_of_ble_eq_true rfl) dX10_scan_172 (fun H locs hP hD hS => ?_)
        have hP := zm_pf3 (X := zm_s X 2 0) hP
        have hD := zm_df3 (X := zm_s X 2 0) hD
        refine lv_aload_n hx hb dX10_scan_175 rfl (lv_at hl 0 rfl) ?_
        refine lv_iconst (v := 0) hx hb dX10_scan_176 (by decide) ?_
        refine va_put (ci := 9) (fs := zm_fs ad (zm_s (zm_s X 2 0) 3 0).1) (v := .int 0) hx hb hts iX10 tyX10 tyX10_ok nmX10 hown hK hP hD hS 0 rfl rfl 17 (by decide) (hts _ w_828) (fun _ h9 => h9) rfl (tyX10_ok 17 (by decide)) rfl rfl (Nat.le_of_ble_eq_true rfl) dX10_scan_177 (fun H locs hP hD hS => ?_)
        have hP := zm_pf17 (X := zm_s (zm_s X 2 0) 3 0) hP
        have hD := zm_df17 (X := zm_s (zm_s X 2 0) 3 0) hD
        refine lv_iconst (v := (-1)) hx hb dX10_scan_180 (by decide) ?_
        refine lv_aload_n hx hb dX10_scan_181 rfl (lv_at hl 0 rfl) ?_
        refine va_get (ci := 9) (v := .int (X.1 30)) hx hb hts iX10 hown hK hP 0 rfl rfl 30 (by decide) (hts _ w_841) (fun _ h9 => h9) rfl dX10_scan_182 ?_
        refine lv_isub hx hb dX10_scan_185 ?_
        subst hF9
        exact zm_riw hQ hx hb hr hlocks hK hP hD hS rfl (by simp [zr_scan, zm_scanE, zq_upd, c_75, c_162]) (by simp [zr_scan, zm_scanE, zq_upd, c_75, c_162]) dX10_scan_186
      · refine lv_aload_n hx hb dX10_scan_165 rfl (lv_at hl 0 rfl) ?_
        refine va_get (ci := 9) (v := .int (X.1 3)) hx hb hts iX10 hown hK hP 0 rfl rfl 3 (by decide) (hts _ w_814) (fun _ h9 => h9) rfl dX10_scan_166 ?_
        subst hF9
        exact zm_riw hQ hx hb hr hlocks hK hP hD hS rfl (by simp [zr_scan, zm_scanE, zq_upd, c_75, c_162]) (by simp [zr_scan, zm_scanE, zq_upd, c_75, c_162]) dX10_scan_169
    · refine lv_aload_n hx hb dX10_scan_78 rfl (lv_at hl 0 rfl) ?_
      refine va_get (ci := 9) (v := .int (X.1 30)) hx hb hts iX10 hown hK hP 0 rfl rfl 30 (by decide) (hts _ w_841) (fun _ h9 => h9) rfl dX10_scan_79 ?_
      refine za_if_ge (tgt := 153) hx hb dX10_scan_82 (by decide) (fun c_82 => ?_) (fun c_82 => ?_)
      · have hF9 : F = X := zm_run_stop hrun (Or.inr c_82)
        refine lv_aload_n hx hb dX10_scan_153 rfl (lv_at hl 0 rfl) ?_
        refine lv_iconst (v := 0) hx hb dX10_scan_154 (by decide) ?_
        refine va_put (ci := 9) (fs := zm_fs ad X.1) (v := .int 0) hx hb hts iX10 tyX10 tyX10_ok nmX10 hown hK hP hD hS 0 rfl rfl 2 (by decide) (hts _ w_813) (fun _ h9 => h9) rfl (tyX10_ok 2 (by decide)) rfl rfl (Nat.le_of_ble_eq_true rfl) dX10_scan_155 (fun H locs hP hD hS => ?_)
        have hP := zm_pf2 (X := X) hP
        have hD := zm_df2 (X := X) hD
        refine lv_aload_n hx hb dX10_scan_158 rfl (lv_at hl 0 rfl) ?_
        refine va_get (ci := 9) (v := .int (X.1 30)) hx hb hts iX10 hown hK hP 0 rfl rfl 30 (by decide) (hts _ w_841) (fun _ h9 => h9) rfl dX10_scan_159 ?_
        refine za_if_ge (tgt := 170) hx hb dX10_scan_162 (by decide) (fun c_162 => ?_) (fun c_162 => ?_)
        · refine lv_aload_n hx hb dX10_scan_170 rfl (lv_at hl 0 rfl) ?_
          refine lv_iconst (v := 0) hx hb dX10_scan_171 (by decide) ?_
          refine va_put (ci := 9) (fs := zm_fs ad (zm_s X 2 0).1) (v := .int 0) hx hb hts iX10 tyX10 tyX10_ok nmX10 hown hK hP hD hS 0 rfl rfl 3 (by decide) (hts _ w_814) (fun _ h9 => h9) rfl (tyX10_ok 3 (by decide)) rfl rfl (Nat.le_of_ble_eq_true rfl) dX10_scan_172 (fun H locs hP hD hS => ?_)
          have hP := zm_pf3 (X := zm_s X 2 0) hP
          have hD := zm_df3 (X := zm_s X 2 0) hD
          refine lv_aload_n hx hb dX10_scan_175 rfl (lv_at hl 0 rfl) ?_
          refine lv_iconst (v := 0) hx hb dX10_scan_176 (by decide) ?_
          refine va_put (ci := 9) (fs := zm_fs ad (zm_s (zm_s X 2 0) 3 0).1) (v := .int 0) hx hb hts iX10 tyX10 tyX10_ok nmX10 hown hK hP hD hS 0 rfl rfl 17 (by decide) (hts _ w_828) (fun _ h9 => h9) rfl (tyX10_ok 17 (by decide)) rfl rfl (Nat.le_of_ble_eq_true rfl) dX10_scan_177 (fun H locs hP hD hS => ?_)
          have hP := zm_pf17 (X := zm_s (zm_s X 2 0) 3 0) hP
          have hD := zm_df17 (X := zm_s (zm_s X 2 0) 3 0) hD
          refine lv_iconst (v := (-1)) hx hb dX10_scan_180 (by decide) ?_
          refine lv_aload_n hx hb dX10_scan_181 rfl (lv_at hl 0 rfl) ?_
          refine va_get (ci := 9) (v := .int (X.1 30)) hx hb hts iX10 hown hK hP 0 rfl rfl 30 (by decide) (hts _ w_841) (fun _ h9 => h9) rfl dX10_scan_182 ?_
          refine lv_isub hx hb dX10_scan_185 ?_
          subst hF9
          exact zm_riw hQ hx hb hr hlocks hK hP hD hS rfl (by simp [zr_scan, zm_scanE, zq_upd, c_75, c_82, c_162]) (by simp [zr_scan, zm_scanE, zq_upd, c_75, c_82, c_162]) dX10_scan_186
        · exact absurd c_162 c_82
      · obtain ⟨n8, rfl, hin9, ⟨k9, D9, hT9, g1, g2, g3, g4⟩, hnx⟩ := zm_run_go hrun c_75 c_82
        have J_108 : ∀ (v9 : Int32) (H : Heap) (locs : List Loc), va_P g.1 vwCl (zm_ws g h ad X) H → va_S A s.heap H locs → v9 = (zr_here X) → W p l e (za_R 9 0 0) s m args below meth co H locs 0 0 Q (F0 m 108 ls (.int v9 :: [])) := by
          intro v_108 H locs hP hS hv_108
          refine lv_istore_n (lv' := [(1, .int v_108), (0, .ref h)]) hx hb dX10_scan_108 rfl hl (by decide) rfl (fun ls hl => ?_)
          refine lv_aload_n hx hb dX10_scan_109 rfl (lv_at hl 1 rfl) ?_
          refine lv_iload_n hx hb dX10_scan_110 rfl (lv_at hl 0 rfl) ?_
          refine za_cv (wc := zm_ws g h ad X) (wr := []) C hP hD hS [0, 1, 2, 3, 4, 5, 6, 7, 8, 9, 10, 11, 12, 13, 14, 15, 16, 17] [] rfl rfl (by decide) (by decide) (za_runV C hP hD hS [0, 1, 2, 3, 4, 5, 6, 7, 8, 9, 10, 11, 12, 13, 14, 15, 16, 17] rfl (by decide) rfl (kX10_step l g E h ad X v_108 k9 D9 hT9 g1 g2 g3 g4) w_969 mX10_step 0 rfl rfl rfl rfl hl.1 rfl (Nat.le_of_ble_eq_true rfl) dX10_scan_111 ⟨by decide, by decide⟩ ⟨by decide, by decide⟩) (fun M1 H locs hM1 hP hD hS => ?_)
          have hP : va_P g.1 vwCl (zm_ws g h ad M1) H := hP
          have hD : va_D A (zm_ws g h ad M1) := hD
          refine lv_iload_n hx hb dX10_scan_114 rfl (lv_at hl 0 rfl) ?_
          refine lv_bipush (v := 10) hx hb dX10_scan_115 (by decide) ?_
          refine lv_icmp_ne (tgt := 140) hx hb dX10_scan_117 (by decide) (fun c_117 => ?_) (fun c_117 => ?_)
          · refine lv_aload_n hx hb dX10_scan_140 rfl (lv_at hl 1 rfl) ?_
            refine lv_dup hx hb dX10_scan_141 rfl ?_
            refine va_get (ci := 9) (v := .int (M1.1 27)) hx hb hts iX10 hown hK hP 0 rfl rfl 27 (by decide) (hts _ w_838) (fun _ h9 => h9) rfl dX10_scan_142 ?_
            refine lv_iconst (v := 1) hx hb dX10_scan_145 (by decide) ?_
            refine lv_iadd hx hb dX10_scan_146 ?_
            refine va_put (ci := 9) (fs := zm_fs ad M1.1) (v := .int ((M1.1 27) + 1)) hx hb hts iX10 tyX10 tyX10_ok nmX10 hown hK hP hD hS 0 rfl rfl 27 (by decide) (hts _ w_838) (fun _ h9 => h9) rfl (tyX10_ok 27 (by decide)) rfl rfl (Nat.le_of_ble_eq_true rfl) dX10_scan_147 (fun H locs hP hD hS => ?_)
            have hP := zm_pf27 (X := M1) hP
            have hD := zm_df27 (X := M1) hD
            refine lv_goto (tgt := 67) hx hb dX10_scan_150 (by decide) ?_
            have e8 : zm_turn X = zm_s M1 27 ((M1.1 27) + 1) := by
              unfold zm_turn zm_fin zm_lf
              rw [← hv_108, ← hM1, if_neg c_117] <;> rfl
            rw [← e8] at hP hD
            exact ih n8 (zm_turn X) (hnx) (by omega) H locs ls hS hP hD (lv_sub hl [1] rfl)
          · refine lv_aload_n hx hb dX10_scan_120 rfl (lv_at hl 1 rfl) ?_
            refine lv_dup hx hb dX10_scan_121 rfl ?_
            refine va_get (ci := 9) (v := .int (M1.1 28)) hx hb hts iX10 hown hK hP 0 rfl rfl 28 (by decide) (hts _ w_839) (fun _ h9 => h9) rfl dX10_scan_122 ?_
            refine lv_iconst (v := 1) hx hb dX10_scan_125 (by decide) ?_
            refine lv_iadd hx hb dX10_scan_126 ?_
            refine va_put (ci := 9) (fs := zm_fs ad M1.1) (v := .int ((M1.1 28) + 1)) hx hb hts iX10 tyX10 tyX10_ok nmX10 hown hK hP hD hS 0 rfl rfl 28 (by decide) (hts _ w_839) (fun _ h9 => h9) rfl (tyX10_ok 28 (by decide)) rfl rfl (Nat.le_of_ble_eq_true rfl) dX10_scan_127 (fun H locs hP hD hS => ?_)
            have hP := zm_pf28 (X := M1) hP
            have hD := zm_df28 (X := M1) hD
            refine lv_aload_n hx hb dX10_scan_130 rfl (lv_at hl 1 rfl) ?_
            refine lv_aload_n hx hb dX10_scan_131 rfl (lv_at hl 1 rfl) ?_
            refine va_get (ci := 9) (v := .int (M1.1 27)) hx hb hts iX10 hown hK hP 0 rfl rfl 27 (by decide) (hts _ w_838) (fun _ h9 => h9) rfl dX10_scan_132 ?_
            refine lv_iconst (v := 1) hx hb dX10_scan_135 (by decide) ?_
            refine lv_iadd hx hb dX10_scan_136 ?_
            refine va_put (ci := 9) (fs := zm_fs ad (zm_s M1 28 ((M1.1 28) + 1)).1) (v := .int ((M1.1 27) + 1)) hx hb hts iX10 tyX10 tyX10_ok nmX10 hown hK hP hD hS 0 rfl rfl 29 (by decide) (hts _ w_840) (fun _ h9 => h9) rfl (tyX10_ok 29 (by decide)) rfl rfl (Nat.le_of_ble_eq_true rfl) dX10_scan_137 (fun H locs hP hD hS => ?_)
            have hP := zm_pf29 (X := zm_s M1 28 ((M1.1 28) + 1)) hP
            have hD := zm_df29 (X := zm_s M1 28 ((M1.1 28) + 1)) hD
            refine lv_aload_n hx hb dX10_scan_140 rfl (lv_at hl 1 rfl) ?_
            refine lv_dup hx hb dX10_scan_141 rfl ?_
            refine va_get (ci := 9) (v := .int (M1.1 27)) hx hb hts iX10 hown hK hP 0 rfl rfl 27 (by decide) (hts _ w_838) (fun _ h9 => h9) rfl dX10_scan_142 ?_
            refine lv_iconst (v := 1) hx hb dX10_scan_145 (by decide) ?_
            refine lv_iadd hx hb dX10_scan_146 ?_
            refine va_put (ci := 9) (fs := zm_fs ad (zm_s (zm_s M1 28 ((M1.1 28) + 1)) 29 ((M1.1 27) + 1)).1) (v := .int ((M1.1 27) + 1)) hx hb hts iX10 tyX10 tyX10_ok nmX10 hown hK hP hD hS 0 rfl rfl 27 (by decide) (hts _ w_838) (fun _ h9 => h9) rfl (tyX10_ok 27 (by decide)) rfl rfl (Nat.le_of_ble_eq_true rfl) dX10_scan_147 (fun H locs hP hD hS => ?_)
            have hP := zm_pf27 (X := zm_s (zm_s M1 28 ((M1.1 28) + 1)) 29 ((M1.1 27) + 1)) hP
            have hD := zm_df27 (X := zm_s (zm_s M1 28 ((M1.1 28) + 1)) 29 ((M1.1 27) + 1)) hD
            refine lv_goto (tgt := 67) hx hb dX10_scan_150 (by decide) ?_
            have e8 : zm_turn X = zm_s (zm_s (zm_s M1 28 ((M1.1 28) + 1)) 29 ((M1.1 27) + 1)) 27 ((M1.1 27) + 1) := by
              unfold zm_turn zm_fin zm_lf
              rw [← hv_108, ← hM1, if_pos c_117] <;> rfl
            rw [← e8] at hP hD
            exact ih n8 (zm_turn X) (hnx) (by omega) H locs ls hS hP hD (lv_sub hl [1] rfl)
        refine lv_aload_n hx hb dX10_scan_85 rfl (lv_at hl 0 rfl) ?_
        refine va_get (ci := 9) (v := .int (X.1 27)) hx hb hts iX10 hown hK hP 0 rfl rfl 27 (by decide) (hts _ w_838) (fun _ h9 => h9) rfl dX10_scan_86 ?_
        refine lv_aload_n hx hb dX10_scan_89 rfl (lv_at hl 0 rfl) ?_
        refine va_get (ci := 9) (v := .int (X.1 2)) hx hb hts iX10 hown hK hP 0 rfl rfl 2 (by decide) (hts _ w_813) (fun _ h9 => h9) rfl dX10_scan_90 ?_
        refine za_icmp_ge (tgt := 107) hx hb dX10_scan_93 (by decide) (fun c_93 => ?_) (fun c_93 => ?_)
        · refine lv_iconst (v := (-1)) hx hb dX10_scan_107 (by decide) ?_
          exact J_108 (-1) H locs hP hS (by simp [zr_here, c_75, c_82, c_93])
        · refine lv_aload_n hx hb dX10_scan_96 rfl (lv_at hl 0 rfl) ?_
          refine lv_aload_n hx hb dX10_scan_97 rfl (lv_at hl 0 rfl) ?_
          refine va_get (ci := 9) (v := .int (X.1 27)) hx hb hts iX10 hown hK hP 0 rfl rfl 27 (by decide) (hts _ w_838) (fun _ h9 => h9) rfl dX10_scan_98 ?_
          refine za_ci (wc := zm_ws g h ad X) (wr := []) C hP hD hS [0, 1, 2, 3, 4, 5, 6, 7, 8, 9, 10, 11, 12, 13, 14, 15, 16, 17] [] rfl rfl (by decide) (by decide) (za_runV C hP hD hS [0, 1, 2, 3, 4, 5, 6, 7, 8, 9, 10, 11, 12, 13, 14, 15, 16, 17] rfl (by decide) rfl (kX10_byteAt l g E h ad X (X.1 27) (hin9 c_93)) w_965 mX10_byteAt 0 rfl rfl rfl rfl hl.1 rfl (Nat.le_of_ble_eq_true rfl) dX10_scan_101 ⟨by decide, by decide⟩ ⟨by decide, by decide⟩) (fun r2 _ H locs hr2 hP hD hS => ?_)
          have hP : va_P g.1 vwCl (zm_ws g h ad X) H := hP
          have hD : va_D A (zm_ws g h ad X) := hD
          refine lv_goto (tgt := 108) hx hb dX10_scan_104 (by decide) ?_
          exact J_108 r2 H locs hP hS (by simp [zr_here, c_75, c_82, c_93, hr2])
set_option maxHeartbeats 4000000 in
set_option maxRecDepth 100000 in
theorem kL_scanH (l : Launch) (g : za_G) (E : za_E) (h : Nat) (ad : Nat → Nat) (M : zm_M) (n : Nat) (F : zm_M) (hrun : zm_run n (zm_scanB M) F) {p : Program} {e : Env} {s : State} {m : MethodId} {args : Array Value} {below : List Frame} {meth : Method} {co : Code} {A : Nat → Prop} {Q : State → Prop} (C : za_H p s m args co cX10_scan 2 RX10 g E A) (hQ : Q = MQ below (za_qi g (fun r (u : zm_M) => r = zr_scan F ∧ u = zm_scanE F) (fun u => zm_ws g h ad u) A) args s 0 0 A) (hr : meth.sig.returnType = (some .int)) (hlocks : meth.locks = false)  : ∀ (n_ : Nat) (j : Nat), (j ≤ 4096) → 4096 - j < n_ → ∀ (H : Heap) (locs : List Loc) (ls : Array Slot), va_S A s.heap H locs → va_P g.1 vwCl (zm_ws g h ad (zm_heads (zm_scan0 M) j)) H → va_D A (zm_ws g h ad (zm_heads (zm_scan0 M) j)) → lv_has ls 2 [(0, .ref h), (1, .int (nI j))] → W p l e (za_R 9 0 0) s m args below meth co H locs 0 0 Q (F0 m 42 ls []) := by
  obtain ⟨hx, hb, hml, hown, hts, hK, hA, hE⟩ := id C
  intro n_
  induction n_ with
  | zero => intro j hj hm; exact absurd hm (Nat.not_lt_zero _)
  | succ n_ ih =>
    intro j hj hm H locs ls hS hP hD hl
    refine lv_iload_n hx hb dX10_scan_42 rfl (lv_at hl 1 rfl) ?_
    refine lv_sipush (v := 4096) hx hb dX10_scan_43 (by decide) ?_
    refine za_icmp_ge (tgt := 62) hx hb dX10_scan_46 (by decide) (fun c_46 => ?_) (fun c_46 => ?_)
    · have hj9 : j = 4096 := by
        rcases Nat.lt_or_ge j 4096 with h9 | h9
        · exact absurd (nI_lt h9 (by decide)) c_46
        · omega
      refine lv_aload_n hx hb dX10_scan_62 rfl (lv_at hl 0 rfl) ?_
      refine lv_iconst (v := 0) hx hb dX10_scan_63 (by decide) ?_
      refine va_put (ci := 9) (fs := zm_fs ad (zm_heads (zm_scan0 M) j).1) (v := .int 0) hx hb hts iX10 tyX10 tyX10_ok nmX10 hown hK hP hD hS 0 rfl rfl 27 (by decide) (hts _ w_838) (fun _ h9 => h9) rfl (tyX10_ok 27 (by decide)) rfl rfl (Nat.le_of_ble_eq_true rfl) dX10_scan_64 (fun H locs hP hD hS => ?_)
      have hP := zm_pf27 (X := (zm_heads (zm_scan0 M) j)) hP
      have hD := zm_df27 (X := (zm_heads (zm_scan0 M) j)) hD
      have hP : va_P g.1 vwCl (zm_ws g h ad (zm_scanB M)) H := by unfold zm_scanB; rw [hj9] at hP; exact hP
      have hD : va_D A (zm_ws g h ad (zm_scanB M)) := by unfold zm_scanB; rw [hj9] at hD; exact hD
      exact kL_scanM l g E h ad M F C hQ hr hlocks _ n (zm_scanB M) hrun (Nat.lt_succ_self _) H locs ls hS hP hD (lv_sub hl [0] rfl)
    · have hlt : j < 4096 := (nI_ltI (by omega) (by decide)).mp c_46
      refine lv_aload_n hx hb dX10_scan_49 rfl (lv_at hl 0 rfl) ?_
      refine va_get (ci := 9) (v := .ref (ad 20)) hx hb hts iX10 hown hK hP 0 rfl rfl 20 (by decide) (hts _ w_831) (fun _ h9 => h9) rfl dX10_scan_50 ?_
      refine lv_iload_n hx hb dX10_scan_53 rfl (lv_at hl 1 rfl) ?_
      refine lv_iconst (v := (-1)) hx hb dX10_scan_54 (by decide) ?_
      refine va_iast (f := (zm_heads (zm_scan0 M) j).2.1 20) hx hb hK hP hD hS 16 1 rfl rfl (vp_in_nI hlt (by decide)) dX10_scan_55 (fun H locs hP hD hS => ?_)
      have hP := zm_pa20 (X := (zm_heads (zm_scan0 M) j)) hP
      have hD := zm_da20 (X := (zm_heads (zm_scan0 M) j)) hD
      refine lv_iinc (v := nI (j + 1)) (lv' := [(1, .int (nI (j + 1))), (0, .ref h)]) hx hb dX10_scan_56 hl (k := 1) rfl (nI_1 _) (by decide) rfl (fun ls hl => ?_)
      refine lv_goto (tgt := 42) hx hb dX10_scan_59 (by decide) ?_
      have hP : va_P g.1 vwCl (zm_ws g h ad (zm_heads (zm_scan0 M) (j + 1))) H := hP
      have hD : va_D A (zm_ws g h ad (zm_heads (zm_scan0 M) (j + 1))) := hD
      exact ih (j + 1) (by omega) (by omega) H locs ls hS hP hD (lv_sub hl [1, 0] rfl)
set_option maxHeartbeats 4000000 in
set_option maxRecDepth 100000 in
theorem kX10_scan (l : Launch) (g : za_G) (E : za_E) (h : Nat) (ad : Nat → Nat) (M : zm_M) (n : Nat) (F : zm_M) (hrun : zm_run n (zm_scanB M) F) : za_Ci l g E yX10_scan cX10_scan 2 ((some .int)) 9 0 0 [.ref h] (zm_ws g h ad M) (fun r (u : zm_M) => r = zr_scan F ∧ u = zm_scanE F) (fun u => zm_ws g h ad u) := by
  refine za_begin (by decide) (Nat.le_of_ble_eq_true rfl) RX10 rfl ?_
  intro p e s m args below meth co A ls Q H locs C hQ hr hlocks hnm hS hP hD hl
  obtain ⟨hx, hb, hml, hown, hts, hK, hA, hE⟩ := id C
  have hl : lv_has ls 2 [(0, .ref h)] := hl
  refine lv_aload_n hx hb dX10_scan_0 rfl (lv_at hl 0 rfl) ?_
  refine lv_iconst (v := 0) hx hb dX10_scan_1 (by decide) ?_
  refine va_put (ci := 9) (fs := zm_fs ad M.1) (v := .int 0) hx hb hts iX10 tyX10 tyX10_ok nmX10 hown hK hP hD hS 0 rfl rfl 0 (by decide) (hts _ w_811) (fun _ h9 => h9) rfl (tyX10_ok 0 (by decide)) rfl rfl (Nat.le_of_ble_eq_true rfl) dX10_scan_2 (fun H locs hP hD hS => ?_)
  have hP := zm_pf0 (X := M) hP
  have hD := zm_df0 (X := M) hD
  refine lv_aload_n hx hb dX10_scan_5 rfl (lv_at hl 0 rfl) ?_
  refine lv_iconst (v := 0) hx hb dX10_scan_6 (by decide) ?_
  refine va_put (ci := 9) (fs := zm_fs ad (zm_s M 0 0).1) (v := .int 0) hx hb hts iX10 tyX10 tyX10_ok nmX10 hown hK hP hD hS 0 rfl rfl 3 (by decide) (hts _ w_814) (fun _ h9 => h9) rfl (tyX10_ok 3 (by decide)) rfl rfl (Nat.le_of_ble_eq_true rfl) dX10_scan_7 (fun H locs hP hD hS => ?_)
  have hP := zm_pf3 (X := zm_s M 0 0) hP
  have hD := zm_df3 (X := zm_s M 0 0) hD
  refine lv_aload_n hx hb dX10_scan_10 rfl (lv_at hl 0 rfl) ?_
  refine lv_iconst (v := 0) hx hb dX10_scan_11 (by decide) ?_
  refine va_put (ci := 9) (fs := zm_fs ad (zm_s (zm_s M 0 0) 3 0).1) (v := .int 0) hx hb hts iX10 tyX10 tyX10_ok nmX10 hown hK hP hD hS 0 rfl rfl 17 (by decide) (hts _ w_828) (fun _ h9 => h9) rfl (tyX10_ok 17 (by decide)) rfl rfl (Nat.le_of_ble_eq_true rfl) dX10_scan_12 (fun H locs hP hD hS => ?_)
  have hP := zm_pf17 (X := zm_s (zm_s M 0 0) 3 0) hP
  have hD := zm_df17 (X := zm_s (zm_s M 0 0) 3 0) hD
  refine lv_aload_n hx hb dX10_scan_15 rfl (lv_at hl 0 rfl) ?_
  refine lv_iconst (v := 0) hx hb dX10_scan_16 (by decide) ?_
  refine va_put (ci := 9) (fs := zm_fs ad (zm_s (zm_s (zm_s M 0 0) 3 0) 17 0).1) (v := .int 0) hx hb hts iX10 tyX10 tyX10_ok nmX10 hown hK hP hD hS 0 rfl rfl 15 (by decide) (hts _ w_826) (fun _ h9 => h9) rfl (tyX10_ok 15 (by decide)) rfl rfl (Nat.le_of_ble_eq_true rfl) dX10_scan_17 (fun H locs hP hD hS => ?_)
  have hP := zm_pf15 (X := zm_s (zm_s (zm_s M 0 0) 3 0) 17 0) hP
  have hD := zm_df15 (X := zm_s (zm_s (zm_s M 0 0) 3 0) 17 0) hD
  refine lv_aload_n hx hb dX10_scan_20 rfl (lv_at hl 0 rfl) ?_
  refine lv_iconst (v := (-1)) hx hb dX10_scan_21 (by decide) ?_
  refine va_put (ci := 9) (fs := zm_fs ad (zm_s (zm_s (zm_s (zm_s M 0 0) 3 0) 17 0) 15 0).1) (v := .int (-1)) hx hb hts iX10 tyX10 tyX10_ok nmX10 hown hK hP hD hS 0 rfl rfl 30 (by decide) (hts _ w_841) (fun _ h9 => h9) rfl (tyX10_ok 30 (by decide)) rfl rfl (Nat.le_of_ble_eq_true rfl) dX10_scan_22 (fun H locs hP hD hS => ?_)
  have hP := zm_pf30 (X := zm_s (zm_s (zm_s (zm_s M 0 0) 3 0) 17 0) 15 0) hP
  have hD := zm_df30 (X := zm_s (zm_s (zm_s (zm_s M 0 0) 3 0) 17 0) 15 0) hD
  refine lv_aload_n hx hb dX10_scan_25 rfl (lv_at hl 0 rfl) ?_
  refine lv_iconst (v := 1) hx hb dX10_scan_26 (by decide) ?_
  refine va_put (ci := 9) (fs := zm_fs ad (zm_s (zm_s (zm_s (zm_s (zm_s M 0 0) 3 0) 17 0) 15 0) 30 (-1)).1) (v := .int 1) hx hb hts iX10 tyX10 tyX10_ok nmX10 hown hK hP hD hS 0 rfl rfl 28 (by decide) (hts _ w_839) (fun _ h9 => h9) rfl (tyX10_ok 28 (by decide)) rfl rfl (Nat.le_of_ble_eq_true rfl) dX10_scan_27 (fun H locs hP hD hS => ?_)
  have hP := zm_pf28 (X := zm_s (zm_s (zm_s (zm_s (zm_s M 0 0) 3 0) 17 0) 15 0) 30 (-1)) hP
  have hD := zm_df28 (X := zm_s (zm_s (zm_s (zm_s (zm_s M 0 0) 3 0) 17 0) 15 0) 30 (-1)) hD
  refine lv_aload_n hx hb dX10_scan_30 rfl (lv_at hl 0 rfl) ?_
  refine lv_iconst (v := 0) hx hb dX10_scan_31 (by decide) ?_
  refine va_put (ci := 9) (fs := zm_fs ad (zm_s (zm_s (zm_s (zm_s (zm_s (zm_s M 0 0) 3 0) 17 0) 15 0) 30 (-1)) 28 1).1) (v := .int 0) hx hb hts iX10 tyX10 tyX10_ok nmX10 hown hK hP hD hS 0 rfl rfl 29 (by decide) (hts _ w_840) (fun _ h9 => h9) rfl (tyX10_ok 29 (by decide)) rfl rfl (Nat.le_of_ble_eq_true rfl) dX10_scan_32 (fun H locs hP hD hS => ?_)
  have hP := zm_pf29 (X := zm_s (zm_s (zm_s (zm_s (zm_s (zm_s M 0 0) 3 0) 17 0) 15 0) 30 (-1)) 28 1) hP
  have hD := zm_df29 (X := zm_s (zm_s (zm_s (zm_s (zm_s (zm_s M 0 0) 3 0) 17 0) 15 0) 30 (-1)) 28 1) hD
  refine lv_aload_n hx hb dX10_scan_35 rfl (lv_at hl 0 rfl) ?_
  refine lv_iconst (v := 0) hx hb dX10_scan_36 (by decide) ?_
  refine va_put (ci := 9) (fs := zm_fs ad (zm_s (zm_s (zm_s (zm_s (zm_s (zm_s (zm_s M 0 0) 3 0) 17 0) 15 0) 30 (-1)) 28 1) 29 0).1) (v := .int 0) hx hb hts iX10 tyX10 tyX10_ok nmX10 hown hK hP hD hS 0 rfl rfl 21 (by decide) (hts _ w_832) (fun _ h9 => h9) rfl (tyX10_ok 21 (by decide)) rfl rfl (Nat.le_of_ble_eq_true rfl) dX10_scan_37 (fun H locs hP hD hS => ?_)
  have hP := zm_pf21 (X := zm_s (zm_s (zm_s (zm_s (zm_s (zm_s (zm_s M 0 0) 3 0) 17 0) 15 0) 30 (-1)) 28 1) 29 0) hP
  have hD := zm_df21 (X := zm_s (zm_s (zm_s (zm_s (zm_s (zm_s (zm_s M 0 0) 3 0) 17 0) 15 0) 30 (-1)) 28 1) 29 0) hD
  refine lv_iconst (v := 0) hx hb dX10_scan_40 (by decide) ?_
  refine lv_istore_n (lv' := [(1, .int 0), (0, .ref h)]) hx hb dX10_scan_41 rfl hl (by decide) rfl (fun ls hl => ?_)
  have hP : va_P g.1 vwCl (zm_ws g h ad (zm_heads (zm_scan0 M) 0)) H := by
    show va_P g.1 vwCl (zm_ws g h ad (zm_scan0 M)) H
    unfold zm_scan0
    exact hP
  have hD : va_D A (zm_ws g h ad (zm_heads (zm_scan0 M) 0)) := by
    show va_D A (zm_ws g h ad (zm_scan0 M))
    unfold zm_scan0
    exact hD
  have hl : lv_has ls 2 [(1, .int (nI 0)), (0, .ref h)] := by rw [nI_0]; exact hl
  exact kL_scanH l g E h ad M n F hrun C hQ hr hlocks _ 0 (by omega) (Nat.lt_succ_self _) H locs ls hS hP hD (lv_sub hl [1, 0] rfl)
