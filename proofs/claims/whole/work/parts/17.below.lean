/-- the row of digits holds f -/
def zm_tab (M : zm_M) (f : Nat → Int32) : zm_M := (M.1, (fun b => if b = 43 then (fun k => if k < 160 then f k else M.2.1 43 k) else M.2.1 b), M.2.2)
theorem zm_tab_a (M : zm_M) (f : Nat → Int32) {j : Nat} (hj : j < 160) (v : Int32) : zm_a (zm_tab M f) 43 (nI j) v = zm_tab M (upd f j v) := by
  unfold zm_tab
  have hc : (nI j).toNatClampNeg = j := nI_clamp (by omega)
  refine Prod.ext rfl (Prod.ext ?_ rfl)
  funext b
  show (if b = 43 then upd _ (nI j).toNatClampNeg v else _) = _
  rw [hc]
  by_cases hb : b = 43
  · subst hb
    rw [if_pos rfl]
    show upd (if 43 = 43 then (fun k => if k < 160 then f k else M.2.1 43 k) else M.2.1 43) j v = if 43 = 43 then (fun k => if k < 160 then upd f j v k else M.2.1 43 k) else M.2.1 43
    rw [if_pos rfl, if_pos rfl]
    funext k
    rw [zq_upd]
    by_cases hk : k = j
    · subst hk
      rw [if_pos rfl, if_pos hj, zq_upd, if_pos rfl]
    · rw [if_neg hk, zq_upd, if_neg hk]
  · rw [if_neg hb]
    show (if b = 43 then _ else M.2.1 b) = if b = 43 then _ else M.2.1 b
    rw [if_neg hb, if_neg hb]
theorem zm_tab_get (M : zm_M) (f : Nat → Int32) {j : Nat} (hj : j < 160) : (zm_tab M f).2.1 43 (nI j).toNatClampNeg = f j := by
  rw [nI_clamp (by omega)]
  show (if 43 = 43 then (fun k => if k < 160 then f k else M.2.1 43 k) else M.2.1 43) j = f j
  rw [if_pos rfl]
  show (if j < 160 then f j else M.2.1 43 j) = f j
  rw [if_pos hj]
theorem zm_tab_id (M : zm_M) : zm_tab M (M.2.1 43) = M := by
  unfold zm_tab
  refine Prod.ext rfl (Prod.ext ?_ rfl)
  funext b
  show (if b = 43 then _ else M.2.1 b) = M.2.1 b
  by_cases hb : b = 43
  · subst hb
    rw [if_pos rfl]
    funext k
    split <;> rfl
  · rw [if_neg hb]
theorem zm_tab_eq (M : zm_M) {f f' : Nat → Int32} (h : ∀ k : Nat, k < 160 → f k = f' k) : zm_tab M f = zm_tab M f' := by
  unfold zm_tab
  refine Prod.ext rfl (Prod.ext ?_ rfl)
  funext b
  show (if b = 43 then _ else M.2.1 b) = (if b = 43 then _ else M.2.1 b)
  by_cases hb : b = 43
  · rw [if_pos hb, if_pos hb]
    funext k
    show (if k < 160 then f k else _) = if k < 160 then f' k else _
    by_cases hk : k < 160
    · rw [if_pos hk, if_pos hk]
      exact h k hk
    · rw [if_neg hk, if_neg hk]
  · rw [if_neg hb, if_neg hb]
/-- a digit of a power of two -/
def zr_2d (b k : Nat) : Nat := 2 ^ b / 10 ^ k % 10
def zr_cy (b j : Nat) : Nat := 2 * (2 ^ b % 10 ^ j) / 10 ^ j
theorem zr_2d_0 (k : Nat) : zr_2d 0 k = if k = 0 then 1 else 0 := by
  unfold zr_2d
  cases k with
  | zero => rfl
  | succ k =>
    rw [if_neg (Nat.succ_ne_zero k), Nat.pow_zero, Nat.div_eq_of_lt]
    have := (Nat.pow_pos (show 0 < 10 by decide) : 0 < 10 ^ k)
    rw [Nat.pow_succ]
    omega
theorem zr_2d_lt (b k : Nat) : zr_2d b k < 10 := Nat.mod_lt _ (by decide)
theorem zr_cy_lt (b j : Nat) : zr_cy b j < 2 := by
  unfold zr_cy
  have h := (Nat.pow_pos (show 0 < 10 by decide) : 0 < 10 ^ j)
  have h2 := Nat.mod_lt (2 ^ b) h
  rw [Nat.div_lt_iff_lt_mul h]
  omega
theorem zr_dbl {x T : Nat} (hT : 0 < T) : 2 * x / T = 2 * (x / T) + 2 * (x % T) / T := by
  have h := Nat.div_add_mod x T
  calc 2 * x / T = (2 * (x % T) + T * (2 * (x / T))) / T := by
        congr 1
        rw [Nat.mul_left_comm]
        omega
    _ = 2 * (x % T) / T + 2 * (x / T) := Nat.add_mul_div_left _ _ hT
    _ = _ := Nat.add_comm _ _
theorem zr_2d_s (b j : Nat) : zr_2d (b + 1) j = (2 * zr_2d b j + zr_cy b j) % 10 := by
  unfold zr_2d zr_cy
  have hT := (Nat.pow_pos (show 0 < 10 by decide) : 0 < 10 ^ j)
  rw [Nat.pow_succ, Nat.mul_comm (2 ^ b) 2, zr_dbl hT]
  omega
theorem zr_cy_s (b j : Nat) : zr_cy b (j + 1) = (2 * zr_2d b j + zr_cy b j) / 10 := by
  unfold zr_2d zr_cy
  have hT := (Nat.pow_pos (show 0 < 10 by decide) : 0 < 10 ^ j)
  rw [Nat.pow_succ, Nat.mod_mul, ← Nat.div_div_eq_div_mul]
  congr 1
  have e1 : 2 * (2 ^ b % 10 ^ j + 10 ^ j * (2 ^ b / 10 ^ j % 10)) = 2 * (2 ^ b % 10 ^ j) + 10 ^ j * (2 * (2 ^ b / 10 ^ j % 10)) := by
    rw [Nat.mul_add, Nat.mul_left_comm]
  rw [e1, Nat.add_mul_div_left _ _ hT, Nat.add_comm]
theorem zr_cy_0 (b : Nat) : zr_cy b 0 = 0 := by
  unfold zr_cy
  rw [Nat.pow_zero, Nat.mod_one]
theorem z20_div : ∀ v : Nat, v < 20 → nI v / 10 = nI (v / 10) := by decide +kernel
theorem z20_rem : ∀ v : Nat, v < 20 → nI v - nI v / 10 * 10 = nI (v % 10) := by decide +kernel
theorem z20_add : ∀ d : Nat, d < 10 → ∀ q : Nat, q < 2 → 2 * nI d + nI q = nI (2 * d + q) := by decide +kernel
theorem z_updlt {f q : Nat → Int32} {j : Nat} {v : Int32} (h : ∀ k : Nat, k < j → f k = q k) (hv : v = q j) : ∀ k : Nat, k < j + 1 → upd f j v k = q k := by
  intro k hk
  rw [zq_upd]
  by_cases h8 : k = j
  · rw [if_pos h8, h8]
    exact hv
  · rw [if_neg h8]
    exact h k (by omega)
def zr_pw (B k : Nat) : Int32 := nI (zr_2d B k)
def zr_cmp (d q : Nat → Int32) : Nat → Int32
  | 0 => 0
  | k + 1 => if d k = q k then zr_cmp d q k else if d k < q k then 1 else 0
def zr_dig (M : zm_M) (P w k : Nat) : Int32 := if nI k < nI w then M.2.1 16 (nI P + nI w - 1 - nI k).toNatClampNeg - 48 else 0
def zr_below (M : zm_M) (P w B : Nat) : Int32 := if 155 < nI w then 0 else zr_cmp (zr_dig M P w) (zr_pw B) 160
def zm_below (M : zm_M) (w B : Nat) : zm_M := if 155 < nI w then M else zm_tab M (zr_pw B)
set_option maxHeartbeats 4000000 in
set_option maxRecDepth 100000 in
theorem kL_belC (l : Launch) (g : za_G) (E : za_E) (h : Nat) (ad : Nat → Nat) (M : zm_M) (P w B : Nat) (hq1 : P + w ≤ 65536) (hq2 : B ≤ 512) (hbl : zr_below M P w B = zr_cmp (zr_dig M P w) (zr_pw B) 160) (hst9 : zm_tab M (zr_pw B) = zm_below M w B) {p : Program} {e : Env} {s : State} {m : MethodId} {args : Array Value} {below : List Frame} {meth : Method} {co : Code} {A : Nat → Prop} {Q : State → Prop} (C : za_H p s m args co cX10_below 8 RX10 g E A) (hQ : Q = MQ below (za_qi g (fun r (u : zm_M) => r = zr_below M P w B ∧ u = zm_below M w B) (fun u => zm_ws g h ad u) A) args s 0 0 A) (hr : meth.sig.returnType = (some .boolean)) (hlocks : meth.locks = false)  : ∀ (n_ : Nat) (j : Nat), (j ≤ 160) → (zr_cmp (zr_dig M P w) (zr_pw B) 160 = zr_cmp (zr_dig M P w) (zr_pw B) j) → j < n_ → ∀ (H : Heap) (locs : List Loc) (ls : Array Slot), va_S A s.heap H locs → va_P g.1 vwCl (zm_ws g h ad (zm_tab M (zr_pw B))) H → va_D A (zm_ws g h ad (zm_tab M (zr_pw B))) → lv_has ls 8 [(0, .ref h), (1, .int (nI P)), (2, .int (nI w)), (3, .int (nI B)), (4, .int (nI j - 1))] → W p l e (za_R 1 0 0) s m args below meth co H locs 0 0 Q (F0 m 114 ls []) := by
  obtain ⟨hx, hb, hml, hown, hts, hK, hA, hE⟩ := id C
  intro n_
  induction n_ with
  | zero => intro j hj hc hm; exact absurd hm (Nat.not_lt_zero _)
  | succ n_ ih =>
    intro j hj hc hm H locs ls hS hP hD hl
    refine lv_iload hx hb dX10_below_114 (lv_at hl 4 rfl) ?_
    refine lv_if_lt (tgt := 183) hx hb dX10_below_116 (by decide) (fun c_116 => ?_) (fun c_116 => ?_)
    · have hr9 : (0 : Int32) = zr_below M P w B := by
        rw [hbl, hc]
        cases j with
        | zero => rfl
        | succ i => rw [nI_pred] at c_116; exact absurd c_116 (nI_pos (by omega))
      refine lv_iconst (v := 0) hx hb dX10_below_183 (by decide) ?_
      exact zm_riw hQ hx hb hr hlocks hK hP hD hS rfl (by first | exact hst9 | exact hr9 | (rw [hr9, if_pos c_168]) | (rw [hr9, if_neg c_168])) (by first | exact hst9 | exact hr9 | (rw [hr9, if_pos c_168]) | (rw [hr9, if_neg c_168])) dX10_below_184
    · obtain ⟨i, rfl⟩ : ∃ i, j = i + 1 := by
        cases j with
        | zero => exact absurd (show nI 0 - 1 < 0 by decide) c_116
        | succ i => exact ⟨i, rfl⟩
      have hl : lv_has ls 8 [(0, .ref h), (1, .int (nI P)), (2, .int (nI w)), (3, .int (nI B)), (4, .int (nI i))] := by rw [nI_pred] at hl; exact hl
      have hd9T : nI i < nI w → (zm_tab M (zr_pw B)).2.1 16 (nI P + nI w - 1 - nI i).toNatClampNeg - 48 = zr_dig M P w i := fun h9 => by
        unfold zr_dig
        rw [if_pos h9]
        rfl
      have hd9F : ¬ nI i < nI w → (0 : Int32) = zr_dig M P w i := fun h9 => by
        unfold zr_dig
        rw [if_neg h9]
      have hin9 : nI i < nI w → vp_in (nI P + nI w - 1 - nI i) 65536 := fun h9 => by
        have h8 : i < w := (nI_ltI (by omega) (by omega)).mp h9
        rw [nI_add, show (1 : Int32) = nI 1 from rfl, pk_sub (by omega), pk_sub (by omega)]
        exact vp_in_nI (by omega) (by omega)
      have J_145 : ∀ v9 : Int32, v9 = (zr_dig M P w i) → W p l e (za_R 1 0 0) s m args below meth co H locs 0 0 Q (F0 m 145 ls (.int v9 :: [])) := by
        intro v_145 hv_145
        refine lv_istore (lv' := [(5, .int v_145), (0, .ref h), (1, .int (nI P)), (2, .int (nI w)), (3, .int (nI B)), (4, .int (nI i))]) hx hb dX10_below_145 hl (by decide) rfl (fun ls hl => ?_)
        refine lv_iload hx hb dX10_below_147 (lv_at hl 0 rfl) ?_
        refine lv_aload_n hx hb dX10_below_149 rfl (lv_at hl 1 rfl) ?_
        refine va_get (ci := 9) (v := .ref (ad 43)) hx hb hts iX10 hown hK hP 0 rfl rfl 43 (by decide) (hts _ w_854) (fun _ h9 => h9) rfl dX10_below_150 ?_
        refine lv_iload hx hb dX10_below_153 (lv_at hl 5 rfl) ?_
        refine va_iald (f := (zm_tab M (zr_pw B)).2.1 43) hx hb hK hP 17 1 rfl rfl (vp_in_nI (by omega) (by decide)) dX10_below_155 ?_
        refine za_top (v := zr_pw B i) (zm_tab_get M (zr_pw B) (by omega)) ?_
        refine lv_icmp_eq (tgt := 177) hx hb dX10_below_156 (by decide) (fun c_156 => ?_) (fun c_156 => ?_)
        · refine lv_iinc (v := nI i - 1) (lv' := [(4, .int (nI i - 1)), (5, .int v_145), (0, .ref h), (1, .int (nI P)), (2, .int (nI w)), (3, .int (nI B))]) hx hb dX10_below_177 hl (k := 5) rfl (by rw [Int32.sub_eq_add_neg]; rfl) (by decide) rfl (fun ls hl => ?_)
          refine lv_goto (tgt := 114) hx hb dX10_below_180 (by decide) ?_
          exact ih i (by omega) (hc.trans (by show (if zr_dig M P w i = zr_pw B i then _ else _) = _; rw [← hv_145, if_pos c_156])) (by omega) H locs ls hS hP hD (lv_sub hl [2, 3, 4, 5, 0] rfl)
        · have hr9 : zr_below M P w B = if v_145 < zr_pw B i then 1 else 0 := by
            rw [hbl, hc]
            show (if zr_dig M P w i = zr_pw B i then _ else if zr_dig M P w i < zr_pw B i then _ else _) = _
            rw [← hv_145, if_neg c_156]
          refine lv_iload hx hb dX10_below_159 (lv_at hl 0 rfl) ?_
          refine lv_aload_n hx hb dX10_below_161 rfl (lv_at hl 1 rfl) ?_
          refine va_get (ci := 9) (v := .ref (ad 43)) hx hb hts iX10 hown hK hP 0 rfl rfl 43 (by decide) (hts _ w_854) (fun _ h9 => h9) rfl dX10_below_162 ?_
          refine lv_iload hx hb dX10_below_165 (lv_at hl 5 rfl) ?_
          refine va_iald (f := (zm_tab M (zr_pw B)).2.1 43) hx hb hK hP 17 1 rfl rfl (vp_in_nI (by omega) (by decide)) dX10_below_167 ?_
          refine za_top (v := zr_pw B i) (zm_tab_get M (zr_pw B) (by omega)) ?_
          refine za_icmp_ge (tgt := 175) hx hb dX10_below_168 (by decide) (fun c_168 => ?_) (fun c_168 => ?_)
          · refine lv_iconst (v := 0) hx hb dX10_below_175 (by decide) ?_
            subst hv_145
            exact zm_riw hQ hx hb hr hlocks hK hP hD hS rfl (by first | exact hst9 | exact hr9 | (rw [hr9, if_pos c_168]) | (rw [hr9, if_neg c_168])) (by first | exact hst9 | exact hr9 | (rw [hr9, if_pos c_168]) | (rw [hr9, if_neg c_168])) dX10_below_176
          · refine lv_iconst (v := 1) hx hb dX10_below_171 (by decide) ?_
            refine lv_goto (tgt := 176) hx hb dX10_below_172 (by decide) ?_
            subst hv_145
            exact zm_riw hQ hx hb hr hlocks hK hP hD hS rfl (by first | exact hst9 | exact hr9 | (rw [hr9, if_pos c_168]) | (rw [hr9, if_neg c_168])) (by first | exact hst9 | exact hr9 | (rw [hr9, if_pos c_168]) | (rw [hr9, if_neg c_168])) dX10_below_176
      refine lv_iload hx hb dX10_below_119 (lv_at hl 4 rfl) ?_
      refine lv_iload_n hx hb dX10_below_121 rfl (lv_at hl 2 rfl) ?_
      refine za_icmp_ge (tgt := 144) hx hb dX10_below_122 (by decide) (fun c_122 => ?_) (fun c_122 => ?_)
      · refine lv_iconst (v := 0) hx hb dX10_below_144 (by decide) ?_
        exact J_145 0 (by first | exact hd9T c_122 | exact hd9F c_122)
      · refine lv_aload_n hx hb dX10_below_125 rfl (lv_at hl 0 rfl) ?_
        refine va_get (ci := 9) (v := .ref (ad 16)) hx hb hts iX10 hown hK hP 0 rfl rfl 16 (by decide) (hts _ w_827) (fun _ h9 => h9) rfl dX10_below_126 ?_
        refine lv_iload_n hx hb dX10_below_129 rfl (lv_at hl 1 rfl) ?_
        refine lv_iload_n hx hb dX10_below_130 rfl (lv_at hl 2 rfl) ?_
        refine lv_iadd hx hb dX10_below_131 ?_
        refine lv_iconst (v := 1) hx hb dX10_below_132 (by decide) ?_
        refine lv_isub hx hb dX10_below_133 ?_
        refine lv_iload hx hb dX10_below_134 (lv_at hl 4 rfl) ?_
        refine lv_isub hx hb dX10_below_136 ?_
        refine va_bald (f := (zm_tab M (zr_pw B)).2.1 16) hx hb hK hP 13 0 rfl rfl (hin9 c_122) dX10_below_137 ?_
        refine lv_bipush (v := 48) hx hb dX10_below_138 (by decide) ?_
        refine lv_isub hx hb dX10_below_140 ?_
        refine lv_goto (tgt := 145) hx hb dX10_below_141 (by decide) ?_
        exact J_145 (((zm_tab M (zr_pw B)).2.1 16 ((((nI P) + (nI w)) - 1) - (nI i)).toNatClampNeg) - 48) (by first | exact hd9T c_122 | exact hd9F c_122)
set_option maxHeartbeats 4000000 in
set_option maxRecDepth 100000 in
theorem kL_belD (l : Launch) (g : za_G) (E : za_E) (h : Nat) (ad : Nat → Nat) (M : zm_M) (P w B : Nat) (b : Nat)  {p : Program} {e : Env} {s : State} {m : MethodId} {args : Array Value} {below : List Frame} {meth : Method} {co : Code} {A : Nat → Prop} {Q : State → Prop} (C : za_H p s m args co cX10_below 8 RX10 g E A) (hQ : Q = MQ below (za_qi g (fun r (u : zm_M) => r = zr_below M P w B ∧ u = zm_below M w B) (fun u => zm_ws g h ad u) A) args s 0 0 A) (hr : meth.sig.returnType = (some .boolean)) (hlocks : meth.locks = false) (hk : ∀ (f : Nat → Int32) (H : Heap) (locs : List Loc) (ls : Array Slot), (∀ k : Nat, k < 160 → f k = nI (zr_2d (b + 1) k)) → va_S A s.heap H locs → va_P g.1 vwCl (zm_ws g h ad (zm_tab M f)) H → va_D A (zm_ws g h ad (zm_tab M f)) → lv_has ls 8 [(0, .ref h), (1, .int (nI P)), (2, .int (nI w)), (3, .int (nI B)), (4, .int (nI b))] → W p l e (za_R 1 0 0) s m args below meth co H locs 0 0 Q (F0 m 103 ls [])) : ∀ (n_ : Nat) (j : Nat) (f : Nat → Int32), (j ≤ 160) → (∀ k : Nat, k < j → f k = nI (zr_2d (b + 1) k)) → (∀ k : Nat, j ≤ k → k < 160 → f k = nI (zr_2d b k)) → 160 - j < n_ → ∀ (H : Heap) (locs : List Loc) (ls : Array Slot), va_S A s.heap H locs → va_P g.1 vwCl (zm_ws g h ad (zm_tab M f)) H → va_D A (zm_ws g h ad (zm_tab M f)) → lv_has ls 8 [(0, .ref h), (1, .int (nI P)), (2, .int (nI w)), (3, .int (nI B)), (4, .int (nI b)), (5, .int (nI (zr_cy b j))), (6, .int (nI j))] → W p l e (za_R 1 0 0) s m args below meth co H locs 0 0 Q (F0 m 56 ls []) := by
  obtain ⟨hx, hb, hml, hown, hts, hK, hA, hE⟩ := id C
  intro n_
  induction n_ with
  | zero => intro j f hj hf1 hf2 hm; exact absurd hm (Nat.not_lt_zero _)
  | succ n_ ih =>
    intro j f hj hf1 hf2 hm H locs ls hS hP hD hl
    refine lv_iload hx hb dX10_below_56 (lv_at hl 6 rfl) ?_
    refine lv_sipush (v := 160) hx hb dX10_below_58 (by decide) ?_
    refine za_icmp_ge (tgt := 103) hx hb dX10_below_61 (by decide) (fun c_61 => ?_) (fun c_61 => ?_)
    · have hj9 : j = 160 := by
        rcases Nat.lt_or_ge j 160 with h9 | h9
        · exact absurd (nI_lt h9 (by decide)) c_61
        · omega
      exact hk f H locs ls (fun k h9 => hf1 k (by omega)) hS hP hD (lv_sub hl [0, 1, 2, 3, 4] rfl)
    · have hlt : j < 160 := (nI_ltI (by omega) (by decide)).mp c_61
      have hv9 : 2 * zr_2d b j + zr_cy b j < 20 := by have h1 := zr_2d_lt b j; have h2 := zr_cy_lt b j; omega
      refine lv_iconst (v := 2) hx hb dX10_below_64 (by decide) ?_
      refine lv_aload_n hx hb dX10_below_65 rfl (lv_at hl 0 rfl) ?_
      refine va_get (ci := 9) (v := .ref (ad 43)) hx hb hts iX10 hown hK hP 0 rfl rfl 43 (by decide) (hts _ w_854) (fun _ h9 => h9) rfl dX10_below_66 ?_
      refine lv_iload hx hb dX10_below_69 (lv_at hl 6 rfl) ?_
      refine va_iald (f := (zm_tab M f).2.1 43) hx hb hK hP 17 1 rfl rfl (vp_in_nI hlt (by decide)) dX10_below_71 ?_
      refine za_top (v := nI (zr_2d b j)) (by rw [zm_tab_get M f hlt]; exact hf2 j (Nat.le_refl _) hlt) ?_
      refine lv_imul hx hb dX10_below_72 ?_
      refine lv_iload hx hb dX10_below_73 (lv_at hl 5 rfl) ?_
      refine lv_iadd hx hb dX10_below_75 ?_
      refine za_top (v := nI (2 * zr_2d b j + zr_cy b j)) (z20_add _ (zr_2d_lt b j) _ (zr_cy_lt b j)) ?_
      refine lv_istore (lv' := [(7, .int (nI (2 * zr_2d b j + zr_cy b j))), (0, .ref h), (1, .int (nI P)), (2, .int (nI w)), (3, .int (nI B)), (4, .int (nI b)), (5, .int (nI (zr_cy b j))), (6, .int (nI j))]) hx hb dX10_below_76 hl (by decide) rfl (fun ls hl => ?_)
      refine lv_aload_n hx hb dX10_below_78 rfl (lv_at hl 1 rfl) ?_
      refine va_get (ci := 9) (v := .ref (ad 43)) hx hb hts iX10 hown hK hP 0 rfl rfl 43 (by decide) (hts _ w_854) (fun _ h9 => h9) rfl dX10_below_79 ?_
      refine lv_iload hx hb dX10_below_82 (lv_at hl 7 rfl) ?_
      refine lv_iload hx hb dX10_below_84 (lv_at hl 0 rfl) ?_
      refine lv_bipush (v := 10) hx hb dX10_below_86 (by decide) ?_
      refine lv_irem hx hb dX10_below_88 (by decide) ?_
      refine za_top (v := nI (zr_2d (b + 1) j)) (by rw [zr_2d_s]; exact z20_rem _ hv9) ?_
      refine va_iast (f := (zm_tab M f).2.1 43) hx hb hK hP hD hS 17 1 rfl rfl (vp_in_nI hlt (by decide)) dX10_below_89 (fun H locs hP hD hS => ?_)
      have hP := zm_pa43 (X := (zm_tab M f)) hP
      have hD := zm_da43 (X := (zm_tab M f)) hD
      refine lv_iload hx hb dX10_below_90 (lv_at hl 0 rfl) ?_
      refine lv_bipush (v := 10) hx hb dX10_below_92 (by decide) ?_
      refine lv_idiv hx hb dX10_below_94 (by decide) ?_
      refine za_top (v := nI (zr_cy b (j + 1))) (by rw [zr_cy_s]; exact z20_div _ hv9) ?_
      refine lv_istore (lv' := [(5, .int (nI (zr_cy b (j + 1)))), (7, .int (nI (2 * zr_2d b j + zr_cy b j))), (0, .ref h), (1, .int (nI P)), (2, .int (nI w)), (3, .int (nI B)), (4, .int (nI b)), (6, .int (nI j))]) hx hb dX10_below_95 hl (by decide) rfl (fun ls hl => ?_)
      refine lv_iinc (v := nI (j + 1)) (lv' := [(6, .int (nI (j + 1))), (5, .int (nI (zr_cy b (j + 1)))), (7, .int (nI (2 * zr_2d b j + zr_cy b j))), (0, .ref h), (1, .int (nI P)), (2, .int (nI w)), (3, .int (nI B)), (4, .int (nI b))]) hx hb dX10_below_97 hl (k := 7) rfl (nI_1 _) (by decide) rfl (fun ls hl => ?_)
      refine lv_goto (tgt := 56) hx hb dX10_below_100 (by decide) ?_
      rw [zm_tab_a M f hlt] at hP hD
      exact ih (j + 1) (upd f j (nI (zr_2d (b + 1) j))) (by omega) (z_updlt (q := fun k => nI (zr_2d (b + 1) k)) hf1 rfl) (fun k h8 h9 => by rw [zq_upd, if_neg (by omega)]; exact hf2 k (by omega) h9) (by omega) H locs ls hS hP hD (lv_sub hl [3, 4, 5, 6, 7, 1, 0] rfl)
set_option maxHeartbeats 4000000 in
set_option maxRecDepth 100000 in
theorem kL_belB (l : Launch) (g : za_G) (E : za_E) (h : Nat) (ad : Nat → Nat) (M : zm_M) (P w B : Nat) (hq1 : P + w ≤ 65536) (hq2 : B ≤ 512) (hbl : zr_below M P w B = zr_cmp (zr_dig M P w) (zr_pw B) 160) (hst9 : zm_tab M (zr_pw B) = zm_below M w B) {p : Program} {e : Env} {s : State} {m : MethodId} {args : Array Value} {below : List Frame} {meth : Method} {co : Code} {A : Nat → Prop} {Q : State → Prop} (C : za_H p s m args co cX10_below 8 RX10 g E A) (hQ : Q = MQ below (za_qi g (fun r (u : zm_M) => r = zr_below M P w B ∧ u = zm_below M w B) (fun u => zm_ws g h ad u) A) args s 0 0 A) (hr : meth.sig.returnType = (some .boolean)) (hlocks : meth.locks = false)  : ∀ (n_ : Nat) (b : Nat) (f : Nat → Int32), (b ≤ B) → (∀ k : Nat, k < 160 → f k = nI (zr_2d b k)) → B - b < n_ → ∀ (H : Heap) (locs : List Loc) (ls : Array Slot), va_S A s.heap H locs → va_P g.1 vwCl (zm_ws g h ad (zm_tab M f)) H → va_D A (zm_ws g h ad (zm_tab M f)) → lv_has ls 8 [(0, .ref h), (1, .int (nI P)), (2, .int (nI w)), (3, .int (nI B)), (4, .int (nI b))] → W p l e (za_R 1 0 0) s m args below meth co H locs 0 0 Q (F0 m 44 ls []) := by
  obtain ⟨hx, hb, hml, hown, hts, hK, hA, hE⟩ := id C
  intro n_
  induction n_ with
  | zero => intro b f hb9 hf hm; exact absurd hm (Nat.not_lt_zero _)
  | succ n_ ih =>
    intro b f hb9 hf hm H locs ls hS hP hD hl
    refine lv_iload hx hb dX10_below_44 (lv_at hl 4 rfl) ?_
    refine lv_iload_n hx hb dX10_below_46 rfl (lv_at hl 3 rfl) ?_
    refine za_icmp_ge (tgt := 109) hx hb dX10_below_47 (by decide) (fun c_47 => ?_) (fun c_47 => ?_)
    · refine lv_sipush (v := 159) hx hb dX10_below_109 (by decide) ?_
      refine lv_istore (lv' := [(4, .int 159), (0, .ref h), (1, .int (nI P)), (2, .int (nI w)), (3, .int (nI B))]) hx hb dX10_below_112 hl (by decide) rfl (fun ls hl => ?_)
      have hb9 : b = B := by
        rcases Nat.lt_or_ge b B with h9 | h9
        · exact absurd (nI_lt h9 (by omega)) c_47
        · omega
      subst hb9
      have e9 : zm_tab M f = zm_tab M (zr_pw b) := zm_tab_eq M hf
      rw [e9] at hP hD
      have hl : lv_has ls 8 [(0, .ref h), (1, .int (nI P)), (2, .int (nI w)), (3, .int (nI b)), (4, .int (nI 160 - 1))] := lv_sub hl [1, 2, 3, 4, 0] rfl
      exact kL_belC l g E h ad M P w b hq1 hq2 hbl hst9 C hQ hr hlocks _ 160 (by omega) rfl (Nat.lt_succ_self _) H locs ls hS hP hD hl
    · have hlt : b < B := (nI_ltI (by omega) (by omega)).mp c_47
      refine lv_iconst (v := 0) hx hb dX10_below_50 (by decide) ?_
      refine lv_istore (lv' := [(5, .int 0), (0, .ref h), (1, .int (nI P)), (2, .int (nI w)), (3, .int (nI B)), (4, .int (nI b))]) hx hb dX10_below_51 hl (by decide) rfl (fun ls hl => ?_)
      refine lv_iconst (v := 0) hx hb dX10_below_53 (by decide) ?_
      refine lv_istore (lv' := [(6, .int 0), (5, .int 0), (0, .ref h), (1, .int (nI P)), (2, .int (nI w)), (3, .int (nI B)), (4, .int (nI b))]) hx hb dX10_below_54 hl (by decide) rfl (fun ls hl => ?_)
      have hl : lv_has ls 8 [(6, .int (nI 0)), (5, .int (nI (zr_cy b 0))), (0, .ref h), (1, .int (nI P)), (2, .int (nI w)), (3, .int (nI B)), (4, .int (nI b))] := by rw [zr_cy_0]; exact lv_sub hl [0, 1, 2, 3, 4, 5, 6] rfl
      refine kL_belD l g E h ad M P w B b C hQ hr hlocks (fun f H locs ls hf hS hP hD hl => ?_) _ 0 f (by omega) (fun k h9 => absurd h9 (Nat.not_lt_zero _)) (fun k _ h9 => hf k h9) (Nat.lt_succ_self _) H locs ls hS hP hD (lv_sub hl [2, 3, 4, 5, 6, 1, 0] rfl)
      refine lv_iinc (v := nI (b + 1)) (lv' := [(4, .int (nI (b + 1))), (0, .ref h), (1, .int (nI P)), (2, .int (nI w)), (3, .int (nI B))]) hx hb dX10_below_103 hl (k := 4) rfl (nI_1 _) (by decide) rfl (fun ls hl => ?_)
      refine lv_goto (tgt := 44) hx hb dX10_below_106 (by decide) ?_
      exact ih (b + 1) f (by omega) (hf) (by omega) H locs ls hS hP hD (lv_sub hl [1, 2, 3, 4, 0] rfl)
set_option maxHeartbeats 4000000 in
set_option maxRecDepth 100000 in
theorem kL_belA (l : Launch) (g : za_G) (E : za_E) (h : Nat) (ad : Nat → Nat) (M : zm_M) (P w B : Nat) (hq1 : P + w ≤ 65536) (hq2 : B ≤ 512) (hbl : zr_below M P w B = zr_cmp (zr_dig M P w) (zr_pw B) 160) (hst9 : zm_tab M (zr_pw B) = zm_below M w B) {p : Program} {e : Env} {s : State} {m : MethodId} {args : Array Value} {below : List Frame} {meth : Method} {co : Code} {A : Nat → Prop} {Q : State → Prop} (C : za_H p s m args co cX10_below 8 RX10 g E A) (hQ : Q = MQ below (za_qi g (fun r (u : zm_M) => r = zr_below M P w B ∧ u = zm_below M w B) (fun u => zm_ws g h ad u) A) args s 0 0 A) (hr : meth.sig.returnType = (some .boolean)) (hlocks : meth.locks = false)  : ∀ (n_ : Nat) (j : Nat) (f : Nat → Int32), (j ≤ 160) → (∀ k : Nat, k < j → f k = 0) → 160 - j < n_ → ∀ (H : Heap) (locs : List Loc) (ls : Array Slot), va_S A s.heap H locs → va_P g.1 vwCl (zm_ws g h ad (zm_tab M f)) H → va_D A (zm_ws g h ad (zm_tab M f)) → lv_has ls 8 [(0, .ref h), (1, .int (nI P)), (2, .int (nI w)), (3, .int (nI B)), (4, .int (nI j))] → W p l e (za_R 1 0 0) s m args below meth co H locs 0 0 Q (F0 m 12 ls []) := by
  obtain ⟨hx, hb, hml, hown, hts, hK, hA, hE⟩ := id C
  intro n_
  induction n_ with
  | zero => intro j f hj hf hm; exact absurd hm (Nat.not_lt_zero _)
  | succ n_ ih =>
    intro j f hj hf hm H locs ls hS hP hD hl
    refine lv_iload hx hb dX10_below_12 (lv_at hl 4 rfl) ?_
    refine lv_sipush (v := 160) hx hb dX10_below_14 (by decide) ?_
    refine za_icmp_ge (tgt := 34) hx hb dX10_below_17 (by decide) (fun c_17 => ?_) (fun c_17 => ?_)
    · have hj9 : j = 160 := by
        rcases Nat.lt_or_ge j 160 with h9 | h9
        · exact absurd (nI_lt h9 (by decide)) c_17
        · omega
      subst hj9
      refine lv_aload_n hx hb dX10_below_34 rfl (lv_at hl 0 rfl) ?_
      refine va_get (ci := 9) (v := .ref (ad 43)) hx hb hts iX10 hown hK hP 0 rfl rfl 43 (by decide) (hts _ w_854) (fun _ h9 => h9) rfl dX10_below_35 ?_
      refine lv_iconst (v := 0) hx hb dX10_below_38 (by decide) ?_
      refine lv_iconst (v := 1) hx hb dX10_below_39 (by decide) ?_
      refine va_iast (f := (zm_tab M f).2.1 43) hx hb hK hP hD hS 17 1 rfl rfl (vp_in_nI (n := 0) (by decide) (by decide)) dX10_below_40 (fun H locs hP hD hS => ?_)
      have hP := zm_pa43 (X := (zm_tab M f)) hP
      have hD := zm_da43 (X := (zm_tab M f)) hD
      refine lv_iconst (v := 0) hx hb dX10_below_41 (by decide) ?_
      refine lv_istore (lv' := [(4, .int 0), (0, .ref h), (1, .int (nI P)), (2, .int (nI w)), (3, .int (nI B))]) hx hb dX10_below_42 hl (by decide) rfl (fun ls hl => ?_)
      rw [show (0 : Int32) = nI 0 from rfl] at hP hD
      rw [zm_tab_a M f (by decide)] at hP hD
      have hl : lv_has ls 8 [(0, .ref h), (1, .int (nI P)), (2, .int (nI w)), (3, .int (nI B)), (4, .int (nI 0))] := lv_sub hl [1, 2, 3, 4, 0] rfl
      exact kL_belB l g E h ad M P w B hq1 hq2 hbl hst9 C hQ hr hlocks _ 0 (upd f 0 1) (by omega) (fun k h9 => by rw [zr_2d_0, zq_upd]; by_cases h8 : k = 0; (rw [if_pos h8, if_pos h8]; rfl); (rw [if_neg h8, if_neg h8]; exact hf k h9)) (Nat.lt_succ_self _) H locs ls hS hP hD hl
    · have hlt : j < 160 := (nI_ltI (by omega) (by decide)).mp c_17
      refine lv_aload_n hx hb dX10_below_20 rfl (lv_at hl 0 rfl) ?_
      refine va_get (ci := 9) (v := .ref (ad 43)) hx hb hts iX10 hown hK hP 0 rfl rfl 43 (by decide) (hts _ w_854) (fun _ h9 => h9) rfl dX10_below_21 ?_
      refine lv_iload hx hb dX10_below_24 (lv_at hl 4 rfl) ?_
      refine lv_iconst (v := 0) hx hb dX10_below_26 (by decide) ?_
      refine va_iast (f := (zm_tab M f).2.1 43) hx hb hK hP hD hS 17 1 rfl rfl (vp_in_nI hlt (by decide)) dX10_below_27 (fun H locs hP hD hS => ?_)
      have hP := zm_pa43 (X := (zm_tab M f)) hP
      have hD := zm_da43 (X := (zm_tab M f)) hD
      refine lv_iinc (v := nI (j + 1)) (lv' := [(4, .int (nI (j + 1))), (0, .ref h), (1, .int (nI P)), (2, .int (nI w)), (3, .int (nI B))]) hx hb dX10_below_28 hl (k := 4) rfl (nI_1 _) (by decide) rfl (fun ls hl => ?_)
      refine lv_goto (tgt := 12) hx hb dX10_below_31 (by decide) ?_
      rw [zm_tab_a M f hlt] at hP hD
      exact ih (j + 1) (upd f j 0) (by omega) (z_updlt (q := fun _ => 0) hf rfl) (by omega) H locs ls hS hP hD (lv_sub hl [1, 2, 3, 4, 0] rfl)
set_option maxHeartbeats 4000000 in
set_option maxRecDepth 100000 in
theorem kX10_below (l : Launch) (g : za_G) (E : za_E) (h : Nat) (ad : Nat → Nat) (M : zm_M) (P w B : Nat) (hq1 : P + w ≤ 65536) (hq2 : B ≤ 512) : za_Ci l g E yX10_below cX10_below 8 ((some .boolean)) 1 0 0 [.ref h, .int (nI P), .int (nI w), .int (nI B)] (zm_ws g h ad M) (fun r (u : zm_M) => r = zr_below M P w B ∧ u = zm_below M w B) (fun u => zm_ws g h ad u) := by
  refine za_begin (by decide) (Nat.le_of_ble_eq_true rfl) RX10 rfl ?_
  intro p e s m args below meth co A ls Q H locs C hQ hr hlocks hnm hS hP hD hl
  obtain ⟨hx, hb, hml, hown, hts, hK, hA, hE⟩ := id C
  have hl : lv_has ls 8 [(0, .ref h), (1, .int (nI P)), (2, .int (nI w)), (3, .int (nI B))] := hl
  refine lv_iload_n hx hb dX10_below_0 rfl (lv_at hl 2 rfl) ?_
  refine lv_sipush (v := 155) hx hb dX10_below_1 (by decide) ?_
  refine za_icmp_le (tgt := 9) hx hb dX10_below_4 (by decide) (fun c_4 => ?_) (fun c_4 => ?_)
  · refine lv_iconst (v := 0) hx hb dX10_below_9 (by decide) ?_
    refine lv_istore (lv' := [(4, .int 0), (0, .ref h), (1, .int (nI P)), (2, .int (nI w)), (3, .int (nI B))]) hx hb dX10_below_10 hl (by decide) rfl (fun ls hl => ?_)
    rw [← zm_tab_id M] at hP hD
    have hl : lv_has ls 8 [(0, .ref h), (1, .int (nI P)), (2, .int (nI w)), (3, .int (nI B)), (4, .int (nI 0))] := lv_sub hl [1, 2, 3, 4, 0] rfl
    exact kL_belA l g E h ad M P w B hq1 hq2 (by unfold zr_below; rw [if_neg c_4]) (by unfold zm_below; rw [if_neg c_4]) C hQ hr hlocks _ 0 (M.2.1 43) (by omega) (fun k h9 => absurd h9 (Nat.not_lt_zero _)) (Nat.lt_succ_self _) H locs ls hS hP hD hl
  · refine lv_iconst (v := 0) hx hb dX10_below_7 (by decide) ?_
    exact zm_riw hQ hx hb hr hlocks hK hP hD hS rfl (by simp [zr_below, zm_below, zq_upd, c_4]) (by simp [zr_below, zm_below, zq_upd, c_4]) dX10_below_8
