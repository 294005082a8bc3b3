/-- the first place from p on, of n places, that does not hold the sign 0 -/
def zr_skip (f : Nat → Int32) (p : Nat) : Nat → Nat
  | 0 => p
  | n + 1 => if f p = 48 then zr_skip f (p + 1) n else p
theorem zr_skip_le (f : Nat → Int32) : ∀ (n p : Nat), p ≤ zr_skip f p n ∧ zr_skip f p n ≤ p + n := by
  intro n
  induction n with
  | zero => intro p; exact ⟨Nat.le_refl _, Nat.le_refl _⟩
  | succ n ih =>
    intro p
    unfold zr_skip
    split
    · have h := ih (p + 1)
      exact ⟨by omega, by omega⟩
    · exact ⟨Nat.le_refl _, by omega⟩
theorem z_injN {a b : Nat} (ha : a < 2 ^ 31) (hb : b < 2 ^ 31) (h : nI a = nI b) : a = b := by
  have h1 := congrArg Int32.toNatClampNeg h
  rwa [nI_clamp ha, nI_clamp hb] at h1
def zr_each (b : Int32) : Int32 := if b = 2 then 1 else if b = 8 then 3 else 4
def zr_top (t : Int32) : Int32 := if 7 < t then 4 else if 3 < t then 3 else if 1 < t then 2 else 1
/-- a token that fits() refuses -/
def zr_fg (M : zm_M) (k b : Int32) : Prop := k < 0 ∨ ¬ k < M.1 3 ∨ ¬ M.2.1 4 k.toNatClampNeg = 2 ∨ b < 0 ∨ 512 < b
theorem z_narB {v : Int32} (h : v = 0 ∨ v = 1) : narrow .boolean (.int v) = .int v := by
  rcases h with h | h <;> subst h <;> rfl
theorem zr_cmp_01 (d q : Nat → Int32) : ∀ k : Nat, zr_cmp d q k = 0 ∨ zr_cmp d q k = 1 := by
  intro k
  induction k with
  | zero => exact Or.inl rfl
  | succ k ih =>
    unfold zr_cmp
    split
    · exact ih
    · split
      · exact Or.inr rfl
      · exact Or.inl rfl
theorem zr_below_01 (M : zm_M) (P w B : Nat) : zr_below M P w B = 0 ∨ zr_below M P w B = 1 := by
  unfold zr_below
  split
  · exact Or.inl rfl
  · exact zr_cmp_01 _ _ _
theorem z_fail0 {M : zm_M} : zm_s (zm_s M 0 0) 0 1 = zm_fail (zm_0 M) := rfl
def zr_fb (M : zm_M) (k : Int32) (p e B : Nat) : Int32 := if p = e then 1 else if M.2.1 11 k.toNatClampNeg = 10 then zr_below M p (e - p) B else if nI B < zr_each (M.2.1 11 k.toNatClampNeg) * (nI e - nI p - 1) + zr_top (zr_worth (M.2.1 16 (nI p).toNatClampNeg)) then 0 else 1
def zm_fb (M : zm_M) (k : Int32) (p e B : Nat) : zm_M := if p = e then M else if M.2.1 11 k.toNatClampNeg = 10 then zm_below M (e - p) B else M
set_option maxHeartbeats 4000000 in
set_option maxRecDepth 100000 in
theorem kL_fitS (l : Launch) (g : za_G) (E : za_E) (h : Nat) (ad : Nat → Nat) (M : zm_M) (k : Int32) (B P0 en : Nat) (u w : Nat) (hg : ¬ zr_fg M k (nI B)) (hT : zm_T M) (hB5 : B ≤ 512) (h12 : M.2.1 12 k.toNatClampNeg = nI u) (h13 : M.2.1 13 k.toNatClampNeg = nI w) (hen : u + w = en) (he6 : en ≤ 60000) (hp0 : zr_digitsFrom M k = nI P0) (hp1 : P0 ≤ en) {p : Program} {e : Env} {s : State} {m : MethodId} {args : Array Value} {below : List Frame} {meth : Method} {co : Code} {A : Nat → Prop} {Q : State → Prop} (C : za_H p s m args co cX10_fits 8 RX10 g E A) (hQ : Q = MQ below (za_qi g (fun r (u : zm_M) => r = zr_fb (zm_0 M) k (zr_skip (M.2.1 16) P0 (en - P0)) en B ∧ u = zm_fb (zm_0 M) k (zr_skip (M.2.1 16) P0 (en - P0)) en B) (fun u => zm_ws g h ad u) A) args s 0 0 A) (hr : meth.sig.returnType = (some .boolean)) (hlocks : meth.locks = false)  : ∀ (n_ : Nat) (z : Nat), (z ≤ en) → (zr_skip (M.2.1 16) P0 (en - P0) = zr_skip (M.2.1 16) z (en - z)) → en - z < n_ → ∀ (H : Heap) (locs : List Loc) (ls : Array Slot), va_S A s.heap H locs → va_P g.1 vwCl (zm_ws g h ad (zm_s M 0 0)) H → va_D A (zm_ws g h ad (zm_s M 0 0)) → lv_has ls 8 [(0, .ref h), (1, .int k), (2, .int (nI B)), (3, .int (nI z)), (4, .int (nI en))] → W p l e (za_R 3 0 0) s m args below meth co H locs 0 0 Q (F0 m 66 ls []) := by
  obtain ⟨hx, hb, hml, hown, hts, hK, hA, hE⟩ := id C
  intro n_
  induction n_ with
  | zero => intro z hp9 hs hm; exact absurd hm (Nat.not_lt_zero _)
  | succ n_ ih =>
    intro z hp9 hs hm H locs ls hS hP hD hl
    have hk9 : vp_in k 16384 := by
      have h1 : ¬ k < 0 := fun h9 => hg (Or.inl h9)
      have h2 : k < M.1 3 := Decidable.byContradiction fun h9 => hg (Or.inr (Or.inl h9))
      exact zq_in hT h1 h2
    refine lv_iload_n hx hb dX10_fits_66 rfl (lv_at hl 3 rfl) ?_
    refine lv_iload hx hb dX10_fits_67 (lv_at hl 4 rfl) ?_
    refine za_icmp_ge (tgt := 89) hx hb dX10_fits_69 (by decide) (fun c_69 => ?_) (fun c_69 => ?_)
    · have hs9 : zr_skip (M.2.1 16) P0 (en - P0) = z := by
        rw [hs]
        have h9 : z = en := by
          rcases Nat.lt_or_ge z en with h9 | h9
          · exact absurd (nI_lt h9 (by omega)) c_69
          · omega
        rw [h9, Nat.sub_self]
        rfl
      have hC1 : zr_fb (zm_0 M) k (zr_skip (M.2.1 16) P0 (en - P0)) en B = zr_fb (zm_s M 0 0) k z en B := by rw [hs9]; rfl
      have hC2 : zm_fb (zm_0 M) k (zr_skip (M.2.1 16) P0 (en - P0)) en B = zm_fb (zm_s M 0 0) k z en B := by rw [hs9]; rfl
      refine lv_iload_n hx hb dX10_fits_89 rfl (lv_at hl 3 rfl) ?_
      refine lv_iload hx hb dX10_fits_90 (lv_at hl 4 rfl) ?_
      refine lv_icmp_ne (tgt := 97) hx hb dX10_fits_92 (by decide) (fun c_92 => ?_) (fun c_92 => ?_)
      · have heq9 : ¬ z = en := fun h9 => c_92 (by rw [h9])
        have hlt9 : z < en := by omega
        refine lv_aload_n hx hb dX10_fits_97 rfl (lv_at hl 0 rfl) ?_
        refine va_get (ci := 9) (v := .ref (ad 11)) hx hb hts iX10 hown hK hP 0 rfl rfl 11 (by decide) (hts _ w_822) (fun _ h9 => h9) rfl dX10_fits_98 ?_
        refine lv_iload_n hx hb dX10_fits_101 rfl (lv_at hl 1 rfl) ?_
        refine va_iald (f := M.2.1 11) hx hb hK hP 9 1 rfl rfl hk9 dX10_fits_102 ?_
        refine lv_bipush (v := 10) hx hb dX10_fits_103 (by decide) ?_
        refine lv_icmp_ne (tgt := 119) hx hb dX10_fits_105 (by decide) (fun c_105 => ?_) (fun c_105 => ?_)
        · have J_149 : ∀ v9 : Int32, v9 = (zr_each (M.2.1 11 k.toNatClampNeg)) → W p l e (za_R 3 0 0) s m args below meth co H locs 0 0 Q (F0 m 149 ls (.int v9 :: [])) := by
            intro v_149 hv_149
            refine lv_istore (lv' := [(5, .int v_149), (0, .ref h), (1, .int k), (2, .int (nI B)), (3, .int (nI z)), (4, .int (nI en))]) hx hb dX10_fits_149 hl (by decide) rfl (fun ls hl => ?_)
            refine lv_aload_n hx hb dX10_fits_151 rfl (lv_at hl 1 rfl) ?_
            refine va_get (ci := 9) (v := .ref (ad 16)) hx hb hts iX10 hown hK hP 0 rfl rfl 16 (by decide) (hts _ w_827) (fun _ h9 => h9) rfl dX10_fits_152 ?_
            refine lv_iload_n hx hb dX10_fits_155 rfl (lv_at hl 4 rfl) ?_
            refine va_bald (f := M.2.1 16) hx hb hK hP 13 0 rfl rfl (vp_in_nI (by omega) (by omega)) dX10_fits_156 ?_
            refine za_ci (wc := []) (wr := zm_ws g h ad (zm_s M 0 0)) C hP hD hS [] [0, 1, 2, 3, 4, 5, 6, 7, 8, 9, 10, 11, 12, 13, 14, 15, 16, 17] rfl rfl (by decide) (by decide) (za_runS C hP hD hS [] rfl (by decide) rfl (kX10_worth l g E  (M.2.1 16 (nI z).toNatClampNeg) ) w_1039 mX10_worth rfl hl.1 rfl (Nat.le_of_ble_eq_true rfl) dX10_fits_157 ⟨by decide, by decide⟩ ⟨by decide, by decide⟩) (fun r1 _ H locs hr1 hP hD hS => ?_)
            have hP : va_P g.1 vwCl (zm_ws g h ad (zm_s M 0 0)) H := hP
            have hD : va_D A (zm_ws g h ad (zm_s M 0 0)) := hD
            refine lv_istore (lv' := [(6, .int r1), (5, .int v_149), (0, .ref h), (1, .int k), (2, .int (nI B)), (3, .int (nI z)), (4, .int (nI en))]) hx hb dX10_fits_160 hl (by decide) rfl (fun ls hl => ?_)
            refine lv_iload hx hb dX10_fits_162 (lv_at hl 1 rfl) ?_
            refine lv_iload hx hb dX10_fits_164 (lv_at hl 6 rfl) ?_
            refine lv_iload_n hx hb dX10_fits_166 rfl (lv_at hl 5 rfl) ?_
            refine lv_isub hx hb dX10_fits_167 ?_
            refine lv_iconst (v := 1) hx hb dX10_fits_168 (by decide) ?_
            refine lv_isub hx hb dX10_fits_169 ?_
            refine lv_imul hx hb dX10_fits_170 ?_
            have J_203 : ∀ v9 : Int32, v9 = (zr_top r1) → W p l e (za_R 3 0 0) s m args below meth co H locs 0 0 Q (F0 m 203 ls (.int v9 :: [.int (v_149 * (((nI en) - (nI z)) - 1))])) := by
              intro v_203 hv_203
              refine lv_iadd hx hb dX10_fits_203 ?_
              refine lv_istore (lv' := [(7, .int ((v_149 * (((nI en) - (nI z)) - 1)) + v_203)), (6, .int r1), (5, .int v_149), (0, .ref h), (1, .int k), (2, .int (nI B)), (3, .int (nI z)), (4, .int (nI en))]) hx hb dX10_fits_204 hl (by decide) rfl (fun ls hl => ?_)
              refine lv_iload hx hb dX10_fits_206 (lv_at hl 0 rfl) ?_
              refine lv_iload_n hx hb dX10_fits_208 rfl (lv_at hl 5 rfl) ?_
              refine lv_icmp_gt (tgt := 216) hx hb dX10_fits_209 (by decide) (fun c_209 => ?_) (fun c_209 => ?_)
              · refine lv_iconst (v := 0) hx hb dX10_fits_216 (by decide) ?_
                subst hv_203
                subst hr1
                subst hv_149
                exact zm_riw hQ hx hb hr hlocks hK hP hD hS (by first | rfl | exact z_narB (zr_below_01 _ _ _ _)) (by first | (rw [hC1]; unfold zr_fb; simp [zq_upd, heq9, c_69, c_92, c_105, c_209]) | (rw [hC2]; unfold zm_fb; simp [zq_upd, heq9, c_69, c_92, c_105, c_209])) (by first | (rw [hC1]; unfold zr_fb; simp [zq_upd, heq9, c_69, c_92, c_105, c_209]) | (rw [hC2]; unfold zm_fb; simp [zq_upd, heq9, c_69, c_92, c_105, c_209])) dX10_fits_217
              · refine lv_iconst (v := 1) hx hb dX10_fits_212 (by decide) ?_
                refine lv_goto (tgt := 217) hx hb dX10_fits_213 (by decide) ?_
                subst hv_203
                subst hr1
                subst hv_149
                exact zm_riw hQ hx hb hr hlocks hK hP hD hS (by first | rfl | exact z_narB (zr_below_01 _ _ _ _)) (by first | (rw [hC1]; unfold zr_fb; simp [zq_upd, heq9, c_69, c_92, c_105, c_209]) | (rw [hC2]; unfold zm_fb; simp [zq_upd, heq9, c_69, c_92, c_105, c_209])) (by first | (rw [hC1]; unfold zr_fb; simp [zq_upd, heq9, c_69, c_92, c_105, c_209]) | (rw [hC2]; unfold zm_fb; simp [zq_upd, heq9, c_69, c_92, c_105, c_209])) dX10_fits_217
            refine lv_iload hx hb dX10_fits_171 (lv_at hl 0 rfl) ?_
            refine lv_bipush (v := 7) hx hb dX10_fits_173 (by decide) ?_
            refine za_icmp_le (tgt := 182) hx hb dX10_fits_175 (by decide) (fun c_175 => ?_) (fun c_175 => ?_)
            · refine lv_iload hx hb dX10_fits_182 (lv_at hl 0 rfl) ?_
              refine lv_iconst (v := 3) hx hb dX10_fits_184 (by decide) ?_
              refine za_icmp_le (tgt := 192) hx hb dX10_fits_185 (by decide) (fun c_185 => ?_) (fun c_185 => ?_)
              · refine lv_iload hx hb dX10_fits_192 (lv_at hl 0 rfl) ?_
                refine lv_iconst (v := 1) hx hb dX10_fits_194 (by decide) ?_
                refine za_icmp_le (tgt := 202) hx hb dX10_fits_195 (by decide) (fun c_195 => ?_) (fun c_195 => ?_)
                · refine lv_iconst (v := 1) hx hb dX10_fits_202 (by decide) ?_
                  exact J_203 1 (by unfold zr_top; first | rw [if_pos c_175] | rw [if_neg c_175, if_pos c_185] | rw [if_neg c_175, if_neg c_185, if_pos c_195] | rw [if_neg c_175, if_neg c_185, if_neg c_195])
                · refine lv_iconst (v := 2) hx hb dX10_fits_198 (by decide) ?_
                  refine lv_goto (tgt := 203) hx hb dX10_fits_199 (by decide) ?_
                  exact J_203 2 (by unfold zr_top; first | rw [if_pos c_175] | rw [if_neg c_175, if_pos c_185] | rw [if_neg c_175, if_neg c_185, if_pos c_195] | rw [if_neg c_175, if_neg c_185, if_neg c_195])
              · refine lv_iconst (v := 3) hx hb dX10_fits_188 (by decide) ?_
                refine lv_goto (tgt := 203) hx hb dX10_fits_189 (by decide) ?_
                exact J_203 3 (by unfold zr_top; first | rw [if_pos c_175] | rw [if_neg c_175, if_pos c_185] | rw [if_neg c_175, if_neg c_185, if_pos c_195] | rw [if_neg c_175, if_neg c_185, if_neg c_195])
            · refine lv_iconst (v := 4) hx hb dX10_fits_178 (by decide) ?_
              refine lv_goto (tgt := 203) hx hb dX10_fits_179 (by decide) ?_
              exact J_203 4 (by unfold zr_top; first | rw [if_pos c_175] | rw [if_neg c_175, if_pos c_185] | rw [if_neg c_175, if_neg c_185, if_pos c_195] | rw [if_neg c_175, if_neg c_185, if_neg c_195])
          refine lv_aload_n hx hb dX10_fits_119 rfl (lv_at hl 0 rfl) ?_
          refine va_get (ci := 9) (v := .ref (ad 11)) hx hb hts iX10 hown hK hP 0 rfl rfl 11 (by decide) (hts _ w_822) (fun _ h9 => h9) rfl dX10_fits_120 ?_
          refine lv_iload_n hx hb dX10_fits_123 rfl (lv_at hl 1 rfl) ?_
          refine va_iald (f := M.2.1 11) hx hb hK hP 9 1 rfl rfl hk9 dX10_fits_124 ?_
          refine lv_iconst (v := 2) hx hb dX10_fits_125 (by decide) ?_
          refine lv_icmp_ne (tgt := 133) hx hb dX10_fits_126 (by decide) (fun c_126 => ?_) (fun c_126 => ?_)
          · refine lv_aload_n hx hb dX10_fits_133 rfl (lv_at hl 0 rfl) ?_
            refine va_get (ci := 9) (v := .ref (ad 11)) hx hb hts iX10 hown hK hP 0 rfl rfl 11 (by decide) (hts _ w_822) (fun _ h9 => h9) rfl dX10_fits_134 ?_
            refine lv_iload_n hx hb dX10_fits_137 rfl (lv_at hl 1 rfl) ?_
            refine va_iald (f := M.2.1 11) hx hb hK hP 9 1 rfl rfl hk9 dX10_fits_138 ?_
            refine lv_bipush (v := 8) hx hb dX10_fits_139 (by decide) ?_
            refine lv_icmp_ne (tgt := 148) hx hb dX10_fits_141 (by decide) (fun c_141 => ?_) (fun c_141 => ?_)
            · refine lv_iconst (v := 4) hx hb dX10_fits_148 (by decide) ?_
              exact J_149 4 (by simp [zr_each, c_69, c_92, c_105, c_126, c_141])
            · refine lv_iconst (v := 3) hx hb dX10_fits_144 (by decide) ?_
              refine lv_goto (tgt := 149) hx hb dX10_fits_145 (by decide) ?_
              exact J_149 3 (by simp [zr_each, c_69, c_92, c_105, c_126, eq_true c_141])
          · refine lv_iconst (v := 1) hx hb dX10_fits_129 (by decide) ?_
            refine lv_goto (tgt := 149) hx hb dX10_fits_130 (by decide) ?_
            exact J_149 1 (by simp [zr_each, c_69, c_92, c_105, eq_true c_126])
        · refine lv_aload_n hx hb dX10_fits_108 rfl (lv_at hl 0 rfl) ?_
          refine lv_iload_n hx hb dX10_fits_109 rfl (lv_at hl 3 rfl) ?_
          refine lv_iload hx hb dX10_fits_110 (lv_at hl 4 rfl) ?_
          refine lv_iload_n hx hb dX10_fits_112 rfl (lv_at hl 3 rfl) ?_
          refine lv_isub hx hb dX10_fits_113 ?_
          refine za_top (v := nI (en - z)) (pk_sub (by omega)) ?_
          refine lv_iload_n hx hb dX10_fits_114 rfl (lv_at hl 2 rfl) ?_
          refine za_ci (wc := zm_ws g h ad (zm_s M 0 0)) (wr := []) C hP hD hS [0, 1, 2, 3, 4, 5, 6, 7, 8, 9, 10, 11, 12, 13, 14, 15, 16, 17] [] rfl rfl (by decide) (by decide) (za_runV C hP hD hS [0, 1, 2, 3, 4, 5, 6, 7, 8, 9, 10, 11, 12, 13, 14, 15, 16, 17] rfl (by decide) rfl (kX10_below l g E h ad (zm_s M 0 0) z (en - z) B (by omega) hB5 ) w_1130 mX10_below 0 rfl rfl rfl rfl hl.1 rfl (Nat.le_of_ble_eq_true rfl) dX10_fits_115 ⟨by decide, by decide⟩ ⟨by decide, by decide⟩) (fun r2 M2 H locs hM2 hP hD hS => ?_)
          obtain ⟨hr2, hM2⟩ := hM2
          have hP : va_P g.1 vwCl (zm_ws g h ad M2) H := hP
          have hD : va_D A (zm_ws g h ad M2) := hD
          subst hM2
          subst hr2
          exact zm_riw hQ hx hb hr hlocks hK hP hD hS (by first | rfl | exact z_narB (zr_below_01 _ _ _ _)) (by first | (rw [hC1]; unfold zr_fb; simp [zq_upd, heq9, c_69, c_92, eq_true c_105]) | (rw [hC2]; unfold zm_fb; simp [zq_upd, heq9, c_69, c_92, eq_true c_105])) (by first | (rw [hC1]; unfold zr_fb; simp [zq_upd, heq9, c_69, c_92, eq_true c_105]) | (rw [hC2]; unfold zm_fb; simp [zq_upd, heq9, c_69, c_92, eq_true c_105])) dX10_fits_118
      · have heq9 : z = en := z_injN (by omega) (by omega) c_92
        refine lv_iconst (v := 1) hx hb dX10_fits_95 (by decide) ?_
        exact zm_riw hQ hx hb hr hlocks hK hP hD hS (by first | rfl | exact z_narB (zr_below_01 _ _ _ _)) (by first | (rw [hC1]; unfold zr_fb; simp [zq_upd, heq9, c_69, eq_true c_92]) | (rw [hC2]; unfold zm_fb; simp [zq_upd, heq9, c_69, eq_true c_92])) (by first | (rw [hC1]; unfold zr_fb; simp [zq_upd, heq9, c_69, eq_true c_92]) | (rw [hC2]; unfold zm_fb; simp [zq_upd, heq9, c_69, eq_true c_92])) dX10_fits_96
    · have hlt : z < en := (nI_ltI (by omega) (by omega)).mp c_69
      refine lv_aload_n hx hb dX10_fits_72 rfl (lv_at hl 0 rfl) ?_
      refine va_get (ci := 9) (v := .ref (ad 16)) hx hb hts iX10 hown hK hP 0 rfl rfl 16 (by decide) (hts _ w_827) (fun _ h9 => h9) rfl dX10_fits_73 ?_
      refine lv_iload_n hx hb dX10_fits_76 rfl (lv_at hl 3 rfl) ?_
      refine va_bald (f := M.2.1 16) hx hb hK hP 13 0 rfl rfl (vp_in_nI (by omega) (by omega)) dX10_fits_77 ?_
      refine lv_bipush (v := 48) hx hb dX10_fits_78 (by decide) ?_
      refine lv_icmp_ne (tgt := 89) hx hb dX10_fits_80 (by decide) (fun c_80 => ?_) (fun c_80 => ?_)
      · have hs9 : zr_skip (M.2.1 16) P0 (en - P0) = z := by
          rw [hs]
          have h9 : z < en := hlt
          rw [show en - z = (en - z - 1) + 1 by omega]
          show (if M.2.1 16 z = 48 then _ else z) = z
          rw [if_neg (by intro h8; apply c_80; rw [nI_clamp (by omega)]; exact h8)]
        have hC1 : zr_fb (zm_0 M) k (zr_skip (M.2.1 16) P0 (en - P0)) en B = zr_fb (zm_s M 0 0) k z en B := by rw [hs9]; rfl
        have hC2 : zm_fb (zm_0 M) k (zr_skip (M.2.1 16) P0 (en - P0)) en B = zm_fb (zm_s M 0 0) k z en B := by rw [hs9]; rfl
        refine lv_iload_n hx hb dX10_fits_89 rfl (lv_at hl 3 rfl) ?_
        refine lv_iload hx hb dX10_fits_90 (lv_at hl 4 rfl) ?_
        refine lv_icmp_ne (tgt := 97) hx hb dX10_fits_92 (by decide) (fun c_92 => ?_) (fun c_92 => ?_)
        · have heq9 : ¬ z = en := fun h9 => c_92 (by rw [h9])
          have hlt9 : z < en := by omega
          refine lv_aload_n hx hb dX10_fits_97 rfl (lv_at hl 0 rfl) ?_
          refine va_get (ci := 9) (v := .ref (ad 11)) hx hb hts iX10 hown hK hP 0 rfl rfl 11 (by decide) (hts _ w_822) (fun _ h9 => h9) rfl dX10_fits_98 ?_
          refine lv_iload_n hx hb dX10_fits_101 rfl (lv_at hl 1 rfl) ?_
          refine va_iald (f := M.2.1 11) hx hb hK hP 9 1 rfl rfl hk9 dX10_fits_102 ?_
          refine lv_bipush (v := 10) hx hb dX10_fits_103 (by decide) ?_
          refine lv_icmp_ne (tgt := 119) hx hb dX10_fits_105 (by decide) (fun c_105 => ?_) (fun c_105 => ?_)
          · have J_149 : ∀ v9 : Int32, v9 = (zr_each (M.2.1 11 k.toNatClampNeg)) → W p l e (za_R 3 0 0) s m args below meth co H locs 0 0 Q (F0 m 149 ls (.int v9 :: [])) := by
              intro v_149 hv_149
              refine lv_istore (lv' := [(5, .int v_149), (0, .ref h), (1, .int k), (2, .int (nI B)), (3, .int (nI z)), (4, .int (nI en))]) hx hb dX10_fits_149 hl (by decide) rfl (fun ls hl => ?_)
              refine lv_aload_n hx hb dX10_fits_151 rfl (lv_at hl 1 rfl) ?_
              refine va_get (ci := 9) (v := .ref (ad 16)) hx hb hts iX10 hown hK hP 0 rfl rfl 16 (by decide) (hts _ w_827) (fun _ h9 => h9) rfl dX10_fits_152 ?_
              refine lv_iload_n hx hb dX10_fits_155 rfl (lv_at hl 4 rfl) ?_
              refine va_bald (f := M.2.1 16) hx hb hK hP 13 0 rfl rfl (vp_in_nI (by omega) (by omega)) dX10_fits_156 ?_
              refine za_ci (wc := []) (wr := zm_ws g h ad (zm_s M 0 0)) C hP hD hS [] [0, 1, 2, 3, 4, 5, 6, 7, 8, 9, 10, 11, 12, 13, 14, 15, 16, 17] rfl rfl (by decide) (by decide) (za_runS C hP hD hS [] rfl (by decide) rfl (kX10_worth l g E  (M.2.1 16 (nI z).toNatClampNeg) ) w_1039 mX10_worth rfl hl.1 rfl (Nat.le_of_ble_eq_true rfl) dX10_fits_157 ⟨by decide, by decide⟩ ⟨by decide, by decide⟩) (fun r3 _ H locs hr3 hP hD hS => ?_)
              have hP : va_P g.1 vwCl (zm_ws g h ad (zm_s M 0 0)) H := hP
              have hD : va_D A (zm_ws g h ad (zm_s M 0 0)) := hD
              refine lv_istore (lv' := [(6, .int r3), (5, .int v_149), (0, .ref h), (1, .int k), (2, .int (nI B)), (3, .int (nI z)), (4, .int (nI en))]) hx hb dX10_fits_160 hl (by decide) rfl (fun ls hl => ?_)
              refine lv_iload hx hb dX10_fits_162 (lv_at hl 1 rfl) ?_
              refine lv_iload hx hb dX10_fits_164 (lv_at hl 6 rfl) ?_
              refine lv_iload_n hx hb dX10_fits_166 rfl (lv_at hl 5 rfl) ?_
              refine lv_isub hx hb dX10_fits_167 ?_
              refine lv_iconst (v := 1) hx hb dX10_fits_168 (by decide) ?_
              refine lv_isub hx hb dX10_fits_169 ?_
              refine lv_imul hx hb dX10_fits_170 ?_
              have J_203 : ∀ v9 : Int32, v9 = (zr_top r3) → W p l e (za_R 3 0 0) s m args below meth co H locs 0 0 Q (F0 m 203 ls (.int v9 :: [.int (v_149 * (((nI en) - (nI z)) - 1))])) := by
                intro v_203 hv_203
                refine lv_iadd hx hb dX10_fits_203 ?_
                refine lv_istore (lv' := [(7, .int ((v_149 * (((nI en) - (nI z)) - 1)) + v_203)), (6, .int r3), (5, .int v_149), (0, .ref h), (1, .int k), (2, .int (nI B)), (3, .int (nI z)), (4, .int (nI en))]) hx hb dX10_fits_204 hl (by decide) rfl (fun ls hl => ?_)
                refine lv_iload hx hb dX10_fits_206 (lv_at hl 0 rfl) ?_
                refine lv_iload_n hx hb dX10_fits_208 rfl (lv_at hl 5 rfl) ?_
                refine lv_icmp_gt (tgt := 216) hx hb dX10_fits_209 (by decide) (fun c_209 => ?_) (fun c_209 => ?_)
                · refine lv_iconst (v := 0) hx hb dX10_fits_216 (by decide) ?_
                  subst hv_203
                  subst hr3
                  subst hv_149
                  exact zm_riw hQ hx hb hr hlocks hK hP hD hS (by first | rfl | exact z_narB (zr_below_01 _ _ _ _)) (by first | (rw [hC1]; unfold zr_fb; simp [zq_upd, heq9, c_69, c_80, c_92, c_105, c_209]) | (rw [hC2]; unfold zm_fb; simp [zq_upd, heq9, c_69, c_80, c_92, c_105, c_209])) (by first | (rw [hC1]; unfold zr_fb; simp [zq_upd, heq9, c_69, c_80, c_92, c_105, c_209]) | (rw [hC2]; unfold zm_fb; simp [zq_upd, heq9, c_69, c_80, c_92, c_105, c_209])) dX10_fits_217
                · refine lv_iconst (v := 1) hx hb dX10_fits_212 (by decide) ?_
                  refine lv_goto (tgt := 217) hx hb dX10_fits_213 (by decide) ?_
                  subst hv_203
                  subst hr3
                  subst hv_149
                  exact zm_riw hQ hx hb hr hlocks hK hP hD hS (by first | rfl | exact z_narB (zr_below_01 _ _ _ _)) (by first | (rw [hC1]; unfold zr_fb; simp [zq_upd, heq9, c_69, c_80, c_92, c_105, c_209]) | (rw [hC2]; unfold zm_fb; simp [zq_upd, heq9, c_69, c_80, c_92, c_105, c_209])) (by first | (rw [hC1]; unfold zr_fb; simp [zq_upd, heq9, c_69, c_80, c_92, c_105, c_209]) | (rw [hC2]; unfold zm_fb; simp [zq_upd, heq9, c_69, c_80, c_92, c_105, c_209])) dX10_fits_217
              refine lv_iload hx hb dX10_fits_171 (lv_at hl 0 rfl) ?_
              refine lv_bipush (v := 7) hx hb dX10_fits_173 (by decide) ?_
              refine za_icmp_le (tgt := 182) hx hb dX10_fits_175 (by decide) (fun c_175 => ?_) (fun c_175 => ?_)
              · refine lv_iload hx hb dX10_fits_182 (lv_at hl 0 rfl) ?_
                refine lv_iconst (v := 3) hx hb dX10_fits_184 (by decide) ?_
                refine za_icmp_le (tgt := 192) hx hb dX10_fits_185 (by decide) (fun c_185 => ?_) (fun c_185 => ?_)
                · refine lv_iload hx hb dX10_fits_192 (lv_at hl 0 rfl) ?_
                  refine lv_iconst (v := 1) hx hb dX10_fits_194 (by decide) ?_
                  refine za_icmp_le (tgt := 202) hx hb dX10_fits_195 (by decide) (fun c_195 => ?_) (fun c_195 => ?_)
                  · refine lv_iconst (v := 1) hx hb dX10_fits_202 (by decide) ?_
                    exact J_203 1 (by unfold zr_top; first | rw [if_pos c_175] | rw [if_neg c_175, if_pos c_185] | rw [if_neg c_175, if_neg c_185, if_pos c_195] | rw [if_neg c_175, if_neg c_185, if_neg c_195])
                  · refine lv_iconst (v := 2) hx hb dX10_fits_198 (by decide) ?_
                    refine lv_goto (tgt := 203) hx hb dX10_fits_199 (by decide) ?_
                    exact J_203 2 (by unfold zr_top; first | rw [if_pos c_175] | rw [if_neg c_175, if_pos c_185] | rw [if_neg c_175, if_neg c_185, if_pos c_195] | rw [if_neg c_175, if_neg c_185, if_neg c_195])
                · refine lv_iconst (v := 3) hx hb dX10_fits_188 (by decide) ?_
                  refine lv_goto (tgt := 203) hx hb dX10_fits_189 (by decide) ?_
                  exact J_203 3 (by unfold zr_top; first | rw [if_pos c_175] | rw [if_neg c_175, if_pos c_185] | rw [if_neg c_175, if_neg c_185, if_pos c_195] | rw [if_neg c_175, if_neg c_185, if_neg c_195])
              · refine lv_iconst (v := 4) hx hb dX10_fits_178 (by decide) ?_
                refine lv_goto (tgt := 203) hx hb dX10_fits_179 (by decide) ?_
                exact J_203 4 (by unfold zr_top; first | rw [if_pos c_175] | rw [if_neg c_175, if_pos c_185] | rw [if_neg c_175, if_neg c_185, if_pos c_195] | rw [if_neg c_175, if_neg c_185, if_neg c_195])
            refine lv_aload_n hx hb dX10_fits_119 rfl (lv_at hl 0 rfl) ?_
            refine va_get (ci := 9) (v := .ref (ad 11)) hx hb hts iX10 hown hK hP 0 rfl rfl 11 (by decide) (hts _ w_822) (fun _ h9 => h9) rfl dX10_fits_120 ?_
            refine lv_iload_n hx hb dX10_fits_123 rfl (lv_at hl 1 rfl) ?_
            refine va_iald (f := M.2.1 11) hx hb hK hP 9 1 rfl rfl hk9 dX10_fits_124 ?_
            refine lv_iconst (v := 2) hx hb dX10_fits_125 (by decide) ?_
            refine lv_icmp_ne (tgt := 133) hx hb dX10_fits_126 (by decide) (fun c_126 => ?_) (fun c_126 => ?_)
            · refine lv_aload_n hx hb dX10_fits_133 rfl (lv_at hl 0 rfl) ?_
              refine va_get (ci := 9) (v := .ref (ad 11)) hx hb hts iX10 hown hK hP 0 rfl rfl 11 (by decide) (hts _ w_822) (fun _ h9 => h9) rfl dX10_fits_134 ?_
              refine lv_iload_n hx hb dX10_fits_137 rfl (lv_at hl 1 rfl) ?_
              refine va_iald (f := M.2.1 11) hx hb hK hP 9 1 rfl rfl hk9 dX10_fits_138 ?_
              refine lv_bipush (v := 8) hx hb dX10_fits_139 (by decide) ?_
              refine lv_icmp_ne (tgt := 148) hx hb dX10_fits_141 (by decide) (fun c_141 => ?_) (fun c_141 => ?_)
              · refine lv_iconst (v := 4) hx hb dX10_fits_148 (by decide) ?_
                exact J_149 4 (by simp [zr_each, c_69, c_80, c_92, c_105, c_126, c_141])
              · refine lv_iconst (v := 3) hx hb dX10_fits_144 (by decide) ?_
                refine lv_goto (tgt := 149) hx hb dX10_fits_145 (by decide) ?_
                exact J_149 3 (by simp [zr_each, c_69, c_80, c_92, c_105, c_126, eq_true c_141])
            · refine lv_iconst (v := 1) hx hb dX10_fits_129 (by decide) ?_
              refine lv_goto (tgt := 149) hx hb dX10_fits_130 (by decide) ?_
              exact J_149 1 (by simp [zr_each, c_69, c_80, c_92, c_105, eq_true c_126])
          · refine lv_aload_n hx hb dX10_fits_108 rfl (lv_at hl 0 rfl) ?_
            refine lv_iload_n hx hb dX10_fits_109 rfl (lv_at hl 3 rfl) ?_
            refine lv_iload hx hb dX10_fits_110 (lv_at hl 4 rfl) ?_
            refine lv_iload_n hx hb dX10_fits_112 rfl (lv_at hl 3 rfl) ?_
            refine lv_isub hx hb dX10_fits_113 ?_
            refine za_top (v := nI (en - z)) (pk_sub (by omega)) ?_
            refine lv_iload_n hx hb dX10_fits_114 rfl (lv_at hl 2 rfl) ?_
            refine za_ci (wc := zm_ws g h ad (zm_s M 0 0)) (wr := []) C hP hD hS [0, 1, 2, 3, 4, 5, 6, 7, 8, 9, 10, 11, 12, 13, 14, 15, 16, 17] [] rfl rfl (by decide) (by decide) (za_runV C hP hD hS [0, 1, 2, 3, 4, 5, 6, 7, 8, 9, 10, 11, 12, 13, 14, 15, 16, 17] rfl (by decide) rfl (kX10_below l g E h ad (zm_s M 0 0) z (en - z) B (by omega) hB5 ) w_1130 mX10_below 0 rfl rfl rfl rfl hl.1 rfl (Nat.le_of_ble_eq_true rfl) dX10_fits_115 ⟨by decide, by decide⟩ ⟨by decide, by decide⟩) (fun r4 M4 H locs hM4 hP hD hS => ?_)
            obtain ⟨hr4, hM4⟩ := hM4
            have hP : va_P g.1 vwCl (zm_ws g h ad M4) H := hP
            have hD : va_D A (zm_ws g h ad M4) := hD
            subst hM4
            subst hr4
            exact zm_riw hQ hx hb hr hlocks hK hP hD hS (by first | rfl | exact z_narB (zr_below_01 _ _ _ _)) (by first | (rw [hC1]; unfold zr_fb; simp [zq_upd, heq9, c_69, c_80, c_92, eq_true c_105]) | (rw [hC2]; unfold zm_fb; simp [zq_upd, heq9, c_69, c_80, c_92, eq_true c_105])) (by first | (rw [hC1]; unfold zr_fb; simp [zq_upd, heq9, c_69, c_80, c_92, eq_true c_105]) | (rw [hC2]; unfold zm_fb; simp [zq_upd, heq9, c_69, c_80, c_92, eq_true c_105])) dX10_fits_118
        · have heq9 : z = en := z_injN (by omega) (by omega) c_92
          refine lv_iconst (v := 1) hx hb dX10_fits_95 (by decide) ?_
          exact zm_riw hQ hx hb hr hlocks hK hP hD hS (by first | rfl | exact z_narB (zr_below_01 _ _ _ _)) (by first | (rw [hC1]; unfold zr_fb; simp [zq_upd, heq9, c_69, c_80, eq_true c_92]) | (rw [hC2]; unfold zm_fb; simp [zq_upd, heq9, c_69, c_80, eq_true c_92])) (by first | (rw [hC1]; unfold zr_fb; simp [zq_upd, heq9, c_69, c_80, eq_true c_92]) | (rw [hC2]; unfold zm_fb; simp [zq_upd, heq9, c_69, c_80, eq_true c_92])) dX10_fits_96
      · refine lv_iinc (v := nI (z + 1)) (lv' := [(3, .int (nI (z + 1))), (0, .ref h), (1, .int k), (2, .int (nI B)), (4, .int (nI en))]) hx hb dX10_fits_83 hl (k := 3) rfl (nI_1 _) (by decide) rfl (fun ls hl => ?_)
        refine lv_goto (tgt := 66) hx hb dX10_fits_86 (by decide) ?_
        exact ih (z + 1) (by omega) (by rw [hs, show en - z = (en - (z + 1)) + 1 by omega]; show (if M.2.1 16 z = 48 then _ else _) = _; rw [if_pos (by rw [nI_clamp (by omega)] at c_80; exact c_80)]) (by omega) H locs ls hS hP hD (lv_sub hl [1, 2, 3, 0, 4] rfl)
set_option maxHeartbeats 4000000 in
set_option maxRecDepth 100000 in
theorem kX10_fits (l : Launch) (g : za_G) (E : za_E) (h : Nat) (ad : Nat → Nat) (M : zm_M) (k : Int32) (B P0 en : Nat) (u w : Nat) (hg : ¬ zr_fg M k (nI B)) (hT : zm_T M) (hB5 : B ≤ 512) (h12 : M.2.1 12 k.toNatClampNeg = nI u) (h13 : M.2.1 13 k.toNatClampNeg = nI w) (hen : u + w = en) (he6 : en ≤ 60000) (hp0 : zr_digitsFrom M k = nI P0) (hp1 : P0 ≤ en) : za_Ci l g E yX10_fits cX10_fits 8 ((some .boolean)) 3 0 0 [.ref h, .int k, .int (nI B)] (zm_ws g h ad M) (fun r (u : zm_M) => r = zr_fb (zm_0 M) k (zr_skip (M.2.1 16) P0 (en - P0)) en B ∧ u = zm_fb (zm_0 M) k (zr_skip (M.2.1 16) P0 (en - P0)) en B) (fun u => zm_ws g h ad u) := by
  refine za_begin (by decide) (Nat.le_of_ble_eq_true rfl) RX10 rfl ?_
  intro p e s m args below meth co A ls Q H locs C hQ hr hlocks hnm hS hP hD hl
  obtain ⟨hx, hb, hml, hown, hts, hK, hA, hE⟩ := id C
  have hl : lv_has ls 8 [(0, .ref h), (1, .int k), (2, .int (nI B))] := hl
  have hk9 : vp_in k 16384 := by
    have h1 : ¬ k < 0 := fun h9 => hg (Or.inl h9)
    have h2 : k < M.1 3 := Decidable.byContradiction fun h9 => hg (Or.inr (Or.inl h9))
    exact zq_in hT h1 h2
  refine lv_aload_n hx hb dX10_fits_0 rfl (lv_at hl 0 rfl) ?_
  refine lv_iconst (v := 0) hx hb dX10_fits_1 (by decide) ?_
  refine va_put (ci := 9) (fs := zm_fs ad M.1) (v := .int 0) hx hb hts iX10 tyX10 tyX10_ok nmX10 hown hK hP hD hS 0 rfl rfl 0 (by decide) (hts _ w_811) (fun _ h9 => h9) rfl (tyX10_ok 0 (by decide)) rfl rfl (Nat.le_of_ble_eq_true rfl) dX10_fits_2 (fun H locs hP hD hS => ?_)
  have hP := zm_pf0 (X := M) hP
  have hD := zm_df0 (X := M) hD
  refine lv_iload_n hx hb dX10_fits_5 rfl (lv_at hl 1 rfl) ?_
  refine lv_if_lt (tgt := 38) hx hb dX10_fits_6 (by decide) (fun c_6 => ?_) (fun c_6 => ?_)
  · exact absurd (Or.inl c_6) hg
  · refine lv_iload_n hx hb dX10_fits_9 rfl (lv_at hl 1 rfl) ?_
    refine lv_aload_n hx hb dX10_fits_10 rfl (lv_at hl 0 rfl) ?_
    refine va_get (ci := 9) (v := .int (M.1 3)) hx hb hts iX10 hown hK hP 0 rfl rfl 3 (by decide) (hts _ w_814) (fun _ h9 => h9) rfl dX10_fits_11 ?_
    refine za_icmp_ge (tgt := 38) hx hb dX10_fits_14 (by decide) (fun c_14 => ?_) (fun c_14 => ?_)
    · exact absurd (Or.inr (Or.inl c_14)) hg
    · refine lv_aload_n hx hb dX10_fits_17 rfl (lv_at hl 0 rfl) ?_
      refine va_get (ci := 9) (v := .ref (ad 4)) hx hb hts iX10 hown hK hP 0 rfl rfl 4 (by decide) (hts _ w_815) (fun _ h9 => h9) rfl dX10_fits_18 ?_
      refine lv_iload_n hx hb dX10_fits_21 rfl (lv_at hl 1 rfl) ?_
      refine va_iald (f := M.2.1 4) hx hb hK hP 2 1 rfl rfl hk9 dX10_fits_22 ?_
      refine lv_iconst (v := 2) hx hb dX10_fits_23 (by decide) ?_
      refine lv_icmp_ne (tgt := 38) hx hb dX10_fits_24 (by decide) (fun c_24 => ?_) (fun c_24 => ?_)
      · exact absurd (Or.inr (Or.inr (Or.inl c_24))) hg
      · refine lv_iload_n hx hb dX10_fits_27 rfl (lv_at hl 2 rfl) ?_
        refine lv_if_lt (tgt := 38) hx hb dX10_fits_28 (by decide) (fun c_28 => ?_) (fun c_28 => ?_)
        · exact absurd (Or.inr (Or.inr (Or.inr (Or.inl c_28)))) hg
        · refine lv_iload_n hx hb dX10_fits_31 rfl (lv_at hl 2 rfl) ?_
          refine lv_sipush (v := 512) hx hb dX10_fits_32 (by decide) ?_
          refine za_icmp_le (tgt := 45) hx hb dX10_fits_35 (by decide) (fun c_35 => ?_) (fun c_35 => ?_)
          · refine lv_aload_n hx hb dX10_fits_45 rfl (lv_at hl 0 rfl) ?_
            refine lv_iload_n hx hb dX10_fits_46 rfl (lv_at hl 1 rfl) ?_
            refine za_ci (wc := zm_ws g h ad (zm_s M 0 0)) (wr := []) C hP hD hS [0, 1, 2, 3, 4, 5, 6, 7, 8, 9, 10, 11, 12, 13, 14, 15, 16, 17] [] rfl rfl (by decide) (by decide) (za_runV C hP hD hS [0, 1, 2, 3, 4, 5, 6, 7, 8, 9, 10, 11, 12, 13, 14, 15, 16, 17] rfl (by decide) rfl (kX10_digitsFrom l g E h ad (zm_s M 0 0) k hk9 (by show vp_in (M.2.1 12 k.toNatClampNeg + 1) 65536; rw [h12, nI_1]; exact vp_in_nI (by omega) (by omega))) w_1050 mX10_digitsFrom 0 rfl rfl rfl rfl hl.1 rfl (Nat.le_of_ble_eq_true rfl) dX10_fits_47 ⟨by decide, by decide⟩ ⟨by decide, by decide⟩) (fun r1 _ H locs hr1 hP hD hS => ?_)
            have hP : va_P g.1 vwCl (zm_ws g h ad (zm_s M 0 0)) H := hP
            have hD : va_D A (zm_ws g h ad (zm_s M 0 0)) := hD
            refine lv_istore_n (lv' := [(3, .int r1), (0, .ref h), (1, .int k), (2, .int (nI B))]) hx hb dX10_fits_50 rfl hl (by decide) rfl (fun ls hl => ?_)
            refine lv_aload_n hx hb dX10_fits_51 rfl (lv_at hl 1 rfl) ?_
            refine va_get (ci := 9) (v := .ref (ad 12)) hx hb hts iX10 hown hK hP 0 rfl rfl 12 (by decide) (hts _ w_823) (fun _ h9 => h9) rfl dX10_fits_52 ?_
            refine lv_iload_n hx hb dX10_fits_55 rfl (lv_at hl 2 rfl) ?_
            refine va_iald (f := M.2.1 12) hx hb hK hP 10 1 rfl rfl hk9 dX10_fits_56 ?_
            refine lv_aload_n hx hb dX10_fits_57 rfl (lv_at hl 1 rfl) ?_
            refine va_get (ci := 9) (v := .ref (ad 13)) hx hb hts iX10 hown hK hP 0 rfl rfl 13 (by decide) (hts _ w_824) (fun _ h9 => h9) rfl dX10_fits_58 ?_
            refine lv_iload_n hx hb dX10_fits_61 rfl (lv_at hl 2 rfl) ?_
            refine va_iald (f := M.2.1 13) hx hb hK hP 11 1 rfl rfl hk9 dX10_fits_62 ?_
            refine lv_iadd hx hb dX10_fits_63 ?_
            refine lv_istore (lv' := [(4, .int ((M.2.1 12 k.toNatClampNeg) + (M.2.1 13 k.toNatClampNeg))), (3, .int r1), (0, .ref h), (1, .int k), (2, .int (nI B))]) hx hb dX10_fits_64 hl (by decide) rfl (fun ls hl => ?_)
            have er9 : r1 = nI P0 := by rw [hr1]; exact hp0
            have ee9 : (M.2.1 12 k.toNatClampNeg) + (M.2.1 13 k.toNatClampNeg) = nI en := by rw [← hen, ← nI_add, ← h12, ← h13]
            rw [er9, ee9] at hl
            exact kL_fitS l g E h ad M k B P0 en u w hg hT hB5 h12 h13 hen he6 hp0 hp1 C hQ hr hlocks _ P0 hp1 rfl (Nat.lt_succ_self _) H locs ls hS hP hD (lv_sub hl [2, 3, 4, 1, 0] rfl)
          · exact absurd (Or.inr (Or.inr (Or.inr (Or.inr c_35)))) hg
set_option maxHeartbeats 4000000 in
set_option maxRecDepth 100000 in
theorem kX10_fitsR (l : Launch) (g : za_G) (E : za_E) (h : Nat) (ad : Nat → Nat) (M : zm_M) (k b : Int32) (hg : zr_fg M k b) (hT : zm_T M) : za_Ci l g E yX10_fits cX10_fits 8 ((some .boolean)) 3 0 0 [.ref h, .int k, .int b] (zm_ws g h ad M) (fun r (u : zm_M) => r = 0 ∧ u = zm_fail (zm_0 M)) (fun u => zm_ws g h ad u) := by
  refine za_begin (by decide) (Nat.le_of_ble_eq_true rfl) RX10 rfl ?_
  intro p e s m args below meth co A ls Q H locs C hQ hr hlocks hnm hS hP hD hl
  obtain ⟨hx, hb, hml, hown, hts, hK, hA, hE⟩ := id C
  have hl : lv_has ls 8 [(0, .ref h), (1, .int k), (2, .int b)] := hl
  refine lv_aload_n hx hb dX10_fits_0 rfl (lv_at hl 0 rfl) ?_
  refine lv_iconst (v := 0) hx hb dX10_fits_1 (by decide) ?_
  refine va_put (ci := 9) (fs := zm_fs ad M.1) (v := .int 0) hx hb hts iX10 tyX10 tyX10_ok nmX10 hown hK hP hD hS 0 rfl rfl 0 (by decide) (hts _ w_811) (fun _ h9 => h9) rfl (tyX10_ok 0 (by decide)) rfl rfl (Nat.le_of_ble_eq_true rfl) dX10_fits_2 (fun H locs hP hD hS => ?_)
  have hP := zm_pf0 (X := M) hP
  have hD := zm_df0 (X := M) hD
  refine lv_iload_n hx hb dX10_fits_5 rfl (lv_at hl 1 rfl) ?_
  refine lv_if_lt (tgt := 38) hx hb dX10_fits_6 (by decide) (fun c_6 => ?_) (fun c_6 => ?_)
  · refine lv_aload_n hx hb dX10_fits_38 rfl (lv_at hl 0 rfl) ?_
    refine lv_iconst (v := 1) hx hb dX10_fits_39 (by decide) ?_
    refine va_put (ci := 9) (fs := zm_fs ad (zm_s M 0 0).1) (v := .int 1) hx hb hts iX10 tyX10 tyX10_ok nmX10 hown hK hP hD hS 0 rfl rfl 0 (by decide) (hts _ w_811) (fun _ h9 => h9) rfl (tyX10_ok 0 (by decide)) rfl rfl (Nat.le_of_ble_eq_true rfl) dX10_fits_40 (fun H locs hP hD hS => ?_)
    have hP := zm_pf0 (X := zm_s M 0 0) hP
    have hD := zm_df0 (X := zm_s M 0 0) hD
    refine lv_iconst (v := 0) hx hb dX10_fits_43 (by decide) ?_
    exact zm_riw hQ hx hb hr hlocks hK hP hD hS rfl (by first | rfl | exact z_fail0) (by first | rfl | exact z_fail0) dX10_fits_44
  · refine lv_iload_n hx hb dX10_fits_9 rfl (lv_at hl 1 rfl) ?_
    refine lv_aload_n hx hb dX10_fits_10 rfl (lv_at hl 0 rfl) ?_
    refine va_get (ci := 9) (v := .int (M.1 3)) hx hb hts iX10 hown hK hP 0 rfl rfl 3 (by decide) (hts _ w_814) (fun _ h9 => h9) rfl dX10_fits_11 ?_
    refine za_icmp_ge (tgt := 38) hx hb dX10_fits_14 (by decide) (fun c_14 => ?_) (fun c_14 => ?_)
    · refine lv_aload_n hx hb dX10_fits_38 rfl (lv_at hl 0 rfl) ?_
      refine lv_iconst (v := 1) hx hb dX10_fits_39 (by decide) ?_
      refine va_put (ci := 9) (fs := zm_fs ad (zm_s M 0 0).1) (v := .int 1) hx hb hts iX10 tyX10 tyX10_ok nmX10 hown hK hP hD hS 0 rfl rfl 0 (by decide) (hts _ w_811) (fun _ h9 => h9) rfl (tyX10_ok 0 (by decide)) rfl rfl (Nat.le_of_ble_eq_true rfl) dX10_fits_40 (fun H locs hP hD hS => ?_)
      have hP := zm_pf0 (X := zm_s M 0 0) hP
      have hD := zm_df0 (X := zm_s M 0 0) hD
      refine lv_iconst (v := 0) hx hb dX10_fits_43 (by decide) ?_
      exact zm_riw hQ hx hb hr hlocks hK hP hD hS rfl (by first | rfl | exact z_fail0) (by first | rfl | exact z_fail0) dX10_fits_44
    · refine lv_aload_n hx hb dX10_fits_17 rfl (lv_at hl 0 rfl) ?_
      refine va_get (ci := 9) (v := .ref (ad 4)) hx hb hts iX10 hown hK hP 0 rfl rfl 4 (by decide) (hts _ w_815) (fun _ h9 => h9) rfl dX10_fits_18 ?_
      refine lv_iload_n hx hb dX10_fits_21 rfl (lv_at hl 1 rfl) ?_
      refine va_iald (f := M.2.1 4) hx hb hK hP 2 1 rfl rfl (zq_in hT c_6 c_14) dX10_fits_22 ?_
      refine lv_iconst (v := 2) hx hb dX10_fits_23 (by decide) ?_
      refine lv_icmp_ne (tgt := 38) hx hb dX10_fits_24 (by decide) (fun c_24 => ?_) (fun c_24 => ?_)
      · refine lv_aload_n hx hb dX10_fits_38 rfl (lv_at hl 0 rfl) ?_
        refine lv_iconst (v := 1) hx hb dX10_fits_39 (by decide) ?_
        refine va_put (ci := 9) (fs := zm_fs ad (zm_s M 0 0).1) (v := .int 1) hx hb hts iX10 tyX10 tyX10_ok nmX10 hown hK hP hD hS 0 rfl rfl 0 (by decide) (hts _ w_811) (fun _ h9 => h9) rfl (tyX10_ok 0 (by decide)) rfl rfl (Nat.le_of_ble_eq_true rfl) dX10_fits_40 (fun H locs hP hD hS => ?_)
        have hP := zm_pf0 (X := zm_s M 0 0) hP
        have hD := zm_df0 (X := zm_s M 0 0) hD
        refine lv_iconst (v := 0) hx hb dX10_fits_43 (by decide) ?_
        exact zm_riw hQ hx hb hr hlocks hK hP hD hS rfl (by first | rfl | exact z_fail0) (by first | rfl | exact z_fail0) dX10_fits_44
      · refine lv_iload_n hx hb dX10_fits_27 rfl (lv_at hl 2 rfl) ?_
        refine lv_if_lt (tgt := 38) hx hb dX10_fits_28 (by decide) (fun c_28 => ?_) (fun c_28 => ?_)
        · refine lv_aload_n hx hb dX10_fits_38 rfl (lv_at hl 0 rfl) ?_
          refine lv_iconst (v := 1) hx hb dX10_fits_39 (by decide) ?_
          refine va_put (ci := 9) (fs := zm_fs ad (zm_s M 0 0).1) (v := .int 1) hx hb hts iX10 tyX10 tyX10_ok nmX10 hown hK hP hD hS 0 rfl rfl 0 (by decide) (hts _ w_811) (fun _ h9 => h9) rfl (tyX10_ok 0 (by decide)) rfl rfl (Nat.le_of_ble_eq_true rfl) dX10_fits_40 (fun H locs hP hD hS => ?_)
          have hP := zm_pf0 (X := zm_s M 0 0) hP
          have hD := zm_df0 (X := zm_s M 0 0) hD
          refine lv_iconst (v := 0) hx hb dX10_fits_43 (by decide) ?_
          exact zm_riw hQ hx hb hr hlocks hK hP hD hS rfl (by first | rfl | exact z_fail0) (by first | rfl | exact z_fail0) dX10_fits_44
        · refine lv_iload_n hx hb dX10_fits_31 rfl (lv_at hl 2 rfl) ?_
          refine lv_sipush (v := 512) hx hb dX10_fits_32 (by decide) ?_
          refine za_icmp_le (tgt := 45) hx hb dX10_fits_35 (by decide) (fun c_35 => ?_) (fun c_35 => ?_)
          · exact absurd hg (fun h9 => by rcases h9 with h9 | h9 | h9 | h9 | h9; exact c_6 h9; exact h9 c_14; exact h9 c_24; exact c_28 h9; exact c_35 h9)
          · refine lv_aload_n hx hb dX10_fits_38 rfl (lv_at hl 0 rfl) ?_
            refine lv_iconst (v := 1) hx hb dX10_fits_39 (by decide) ?_
            refine va_put (ci := 9) (fs := zm_fs ad (zm_s M 0 0).1) (v := .int 1) hx hb hts iX10 tyX10 tyX10_ok nmX10 hown hK hP hD hS 0 rfl rfl 0 (by decide) (hts _ w_811) (fun _ h9 => h9) rfl (tyX10_ok 0 (by decide)) rfl rfl (Nat.le_of_ble_eq_true rfl) dX10_fits_40 (fun H locs hP hD hS => ?_)
            have hP := zm_pf0 (X := zm_s M 0 0) hP
            have hD := zm_df0 (X := zm_s M 0 0) hD
            refine lv_iconst (v := 0) hx hb dX10_fits_43 (by decide) ?_
            exact zm_riw hQ hx hb hr hlocks hK hP hD hS rfl (by first | rfl | exact z_fail0) (by first | rfl | exact z_fail0) dX10_fits_44
