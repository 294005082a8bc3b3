/-! Both in step: at the head of the class's loop, before the reference's gap. -/
def zq_last (b : Nat → Nat) (h : Nat) : Nat → Int32
  | 0 => -1
  | j + 1 => if b j = h then nI j else zq_last b h j
def zq_h1 (T : Nat → Int32) (q : Nat) : Nat → Int32
  | 0 => 0
  | w + 1 => zq_h1 T q w * 31 + (T (q + w) &&& 255)
def zq_h2 (T : Nat → Int32) (q w : Nat) : Int32 :=
  let v := (T q &&& 255) * 37 + (T (q + (w - 1)) &&& 255) * 11 + (T (q + w / 2) &&& 255) * 101 + nI w
  v - v / 4096 * 4096
def zq_b1 (T : Nat → Int32) (q w : Nat) : Nat := (zq_h1 T q w &&& 511).toNatClampNeg
def zq_b2 (T : Nat → Int32) (q w : Nat) : Nat := (zq_h2 T q w).toNatClampNeg
/-- name j, of W j bytes from Q j on -/
def zq_nj (T : Nat → Int32) (n : Nat) (N : zc_N) (M : zm_M) (t u : Nat) (Q W : Nat → Nat) (j : Nat) : Prop := ∃ f p : Nat, f < t ∧ N.2.1 23 j = nI f ∧ M.2.1 18 j = nI f ∧ M.2.1 5 f = nI (Q j) ∧ M.2.1 8 f = nI (W j) ∧ Q j + W j ≤ n ∧ 1 ≤ W j ∧ M.2.1 12 f = nI p ∧ M.2.1 13 f = nI (W j) ∧ p + W j ≤ u ∧ (∀ i : Nat, i < W j → M.2.1 16 (p + i) = T (Q j + i)) ∧ N.2.1 22 j = zq_h1 T (Q j) (W j)
def zq_ch (T : Nat → Int32) (N : zc_N) (M : zm_M) (k : Nat) (Q W : Nat → Nat) : Prop := (∀ h : Nat, h < 512 → N.2.1 20 h = zq_last (fun j => zq_b1 T (Q j) (W j)) h k) ∧ (∀ j : Nat, j < k → N.2.1 21 j = zq_last (fun j => zq_b1 T (Q j) (W j)) (zq_b1 T (Q j) (W j)) j) ∧ (∀ h : Nat, h < 4096 → M.2.1 20 h = zq_last (fun j => zq_b2 T (Q j) (W j)) h k) ∧ (∀ j : Nat, j < k → M.2.1 19 j = zq_last (fun j => zq_b2 T (Q j) (W j)) (zq_b2 T (Q j) (W j)) j)
def zq_nm (T : Nat → Int32) (n : Nat) (N : zc_N) (M : zm_M) (t k u : Nat) : Prop := ∃ Q W : Nat → Nat, (∀ j : Nat, j < k → zq_nj T n N M t u Q W j) ∧ zq_ch T N M k Q W
/-- t tokens, k names, u bytes of the pool; nothing refused -/
def zq_D (T : Nat → Int32) (n : Nat) (N : zc_N) (M : zm_M) (t k u : Nat) : Prop := zc_I N ∧ N.1 65 = 0 ∧ M.1 30 = -1 ∧ (zq_K N M t u ∧ t ≤ 16384 ∧ u ≤ 60000) ∧ (N.1 24 = nI k ∧ M.1 17 = nI k ∧ k ≤ t ∧ zq_nm T n N M t k u) ∧ N.1 58 = zr_asks (zr_last M)
def zq_S (T : Nat → Int32) (n : Nat) (N : zc_N) (M : zm_M) (a t k u : Nat) : Prop := zq_D T n N M t k u ∧ zq_ct T n N a ∧ zq_mt T n M a ∧ a ≤ n ∧ M.1 21 = 0 ∧ t ≤ a ∧ u ≤ a
def zq_out (T : Nat → Int32) (n : Nat) (X : zc_N) (M : zm_M) (a : Nat) : Prop := (∃ (Y : zm_M) (b t k u : Nat), a < b ∧ zq_S T n X Y b t k u ∧ ∀ F : zm_M, zg Y F → zg M F) ∨ (¬ X.1 65 = 0 ∧ zc_I X ∧ ∃ (e : Nat) (F : zm_M), e ≤ 10240 ∧ X.1 62 = nI e ∧ F.1 30 = nI e ∧ zg M F)
theorem zq_nm_keep {T : Nat → Int32} {n : Nat} {N X : zc_N} {M Y : zm_M} {t k u t' u' : Nat} (h : zq_nm T n N M t k u) (K : zq_kp N X M Y t u t' u') (hr : ∀ a : Nat, a = 20 ∨ a = 21 ∨ a = 22 ∨ a = 23 → X.2.1 a = N.2.1 a) (hs : ∀ a : Nat, a = 18 ∨ a = 19 ∨ a = 20 → Y.2.1 a = M.2.1 a) : zq_nm T n X Y t' k u' := by
  obtain ⟨⟨a1, a2, a3, a4⟩, ⟨b1, b2, b3, b4⟩, c1, c2, c3, c4, c5⟩ := K
  obtain ⟨Q, W, h1, h2, h3, h4, h5⟩ := h
  refine ⟨Q, W, fun j hj => ?_, ?_, ?_, ?_, ?_⟩
  · obtain ⟨f, p, f1, f2, f3, f4, f5, f6, f7, f8, f9, f10, f11, f12⟩ := h1 j hj
    refine ⟨f, p, by omega, ?_, ?_, ?_, ?_, f6, f7, ?_, ?_, by omega, fun i hi => ?_, ?_⟩
    · rw [hr 23 (by simp)]; exact f2
    · rw [hs 18 (by simp)]; exact f3
    · rw [c3 5 (by decide) (by decide) f f1]; exact f4
    · rw [c3 8 (by decide) (by decide) f f1]; exact f5
    · rw [c3 12 (by decide) (by decide) f f1]; exact f8
    · rw [c3 13 (by decide) (by decide) f f1]; exact f9
    · rw [c4 _ (by omega)]; exact f11 i hi
    · rw [hr 22 (by simp)]; exact f12
  · rw [hr 20 (by simp)]; exact h2
  · rw [hr 21 (by simp)]; exact h3
  · rw [hs 20 (by simp)]; exact h4
  · rw [hs 19 (by simp)]; exact h5
theorem zq_D_add {T : Nat → Int32} {n : Nat} {N X : zc_N} {M Y : zm_M} {t k u t' u' : Nat} (h : zq_D T n N M t k u) (hI : zc_I X) (K : zq_kp N X M Y t u t' u') (ht : ∀ j : Nat, t ≤ j → j < t' → zp_tok X Y j) (hu : ∀ i : Nat, u ≤ i → i < u' → X.2.1 0 i = Y.2.1 16 i) (h65 : X.1 65 = 0) (h30 : Y.1 30 = -1) (h24 : X.1 24 = N.1 24) (h17 : Y.1 17 = M.1 17) (hr : ∀ a : Nat, a = 20 ∨ a = 21 ∨ a = 22 ∨ a = 23 → X.2.1 a = N.2.1 a) (hs : ∀ a : Nat, a = 18 ∨ a = 19 ∨ a = 20 → Y.2.1 a = M.2.1 a) (h58 : X.1 58 = zr_asks (zr_last Y)) : zq_D T n X Y t' k u' := by
  obtain ⟨d1, d2, d3, ⟨d4, d5, d6⟩, ⟨d7, d8, d9, d10⟩, d11⟩ := h
  have K9 := K
  obtain ⟨⟨a1, a2, a3, a4⟩, ⟨b1, b2, b3, b4⟩, -⟩ := K9
  exact ⟨hI, h65, h30, ⟨zq_K_add d4 K ht hu, a4, b4⟩, ⟨h24.trans d7, h17.trans d8, by omega, zq_nm_keep d10 K hr hs⟩, h58⟩
/-- numbers changed that matter to none -/
theorem zq_D_frame {T : Nat → Int32} {n : Nat} {N X : zc_N} {M Y : zm_M} {t k u : Nat} (h : zq_D T n N M t k u) (hI : zc_I X) (h2 : ∀ a : Nat, X.2.1 a = N.2.1 a) (h1 : ∀ j : Nat, j = 71 ∨ j = 1 ∨ j = 24 ∨ j = 65 ∨ j = 58 → X.1 j = N.1 j) (g2 : Y.2 = M.2) (g1 : ∀ j : Nat, j = 3 ∨ j = 15 ∨ j = 17 ∨ j = 30 → Y.1 j = M.1 j) : zq_D T n X Y t k u := by
  have h9 := h
  obtain ⟨d1, d2, d3, ⟨d4, d5, d6⟩, ⟨d7, d8, d9, d10⟩, d11⟩ := h9
  refine zq_D_add h hI ⟨⟨?_, ?_, Nat.le_refl _, d5⟩, ⟨?_, ?_, Nat.le_refl _, d6⟩, fun i _ => by rw [h2], fun i _ => by rw [h2], fun r _ _ j _ => by rw [g2], fun i _ => by rw [g2], fun j _ => by rw [g2]⟩ (fun j a b => absurd a (by omega)) (fun j a b => absurd a (by omega)) ?_ ?_ ?_ ?_ (fun a _ => by rw [h2]) (fun a _ => by rw [g2]) ?_
  · rw [h1 71 (by simp)]; exact d4.1
  · rw [g1 3 (by simp)]; exact d4.2.1
  · rw [h1 1 (by simp)]; exact d4.2.2.2.1
  · rw [g1 15 (by simp)]; exact d4.2.2.2.2.1
  · rw [h1 65 (by simp)]; exact d2
  · rw [g1 30 (by simp)]; exact d3
  · exact h1 24 (by simp)
  · exact g1 17 (by simp)
  · rw [h1 58 (by simp), d11]
    unfold zr_last
    rw [g1 3 (by simp), g2]
/-- where a token began: byte a, the pool's byte u -/
def zq_st (T : Nat → Int32) (n : Nat) (X : zc_N) (Y : zm_M) (a u : Nat) : Prop := (X.1 54 = nI a ∧ X.1 55 = zq_ln T n a ∧ X.1 56 = nI a - zq_ls T n a + 1 ∧ X.1 57 = nI u) ∧ Y.1 23 = nI a ∧ Y.1 24 = zq_ln T n a ∧ Y.1 25 = nI a - zq_ls T n a + 1
theorem zr_last_at {Y : zm_M} {t : Nat} (h : Y.1 3 = nI (t + 1)) (ht : t < 16384) : zr_last Y = Y.2.1 4 t := by
  have h0 : ¬ nI (t + 1) = 0 := fun z => absurd (z_injC (a := t + 1) (b := 0) (by omega) (by omega) z) (by omega)
  unfold zr_last
  rw [h, if_neg h0, nI_pred, nI_clamp (by omega)]
/-- a token with no bytes of its own and no value -/
theorem zq_D_put {T : Nat → Int32} {n : Nat} {N : zc_N} {M : zm_M} {t k u a : Nat} (h : zq_D T n N M t k u) (hs : zq_st T n N M a u) (ht : t < 16384) (kd l : Int32) (h2 : ¬ kd = 2) (h4 : ¬ kd = 4) : zq_D T n (zc_from N kd l) (zm_token M kd l 0) (t + 1) k u := by
  have h9 := h
  obtain ⟨d1, d2, d3, ⟨d4, d5, d6⟩, ⟨d7, d8, d9, d10⟩, d11⟩ := h9
  obtain ⟨⟨s1, s2, s3, s4⟩, s5, s6, s7⟩ := hs
  have hI : zc_I (zc_from N kd l) := zi_from d1 (by rw [d4.1]; exact nI_lt ht (by decide)) kd l
  obtain ⟨r1, r2, r3, r4, r5, r6, r7⟩ := zc_from_at d1 d4.1 ht kd l
  obtain ⟨m1, ⟨m4, m5, m6, m7, m8, m9, m10, m11, m12, m13⟩, m2, m3⟩ := zm_token_at d4.2.1 ht kd l 0
  have rw1 := zm_token_row d4.2.1 ht kd l 0
  generalize zc_from N kd l = X at r1 r2 r3 r4 r5 r6 r7 hI ⊢
  generalize zm_token M kd l 0 = Y at m1 m4 m5 m6 m7 m8 m9 m10 m11 m12 m13 m2 m3 rw1 ⊢
  have e1 : X.1 1 = nI u := (r4 1 (by decide) (by decide)).trans d4.2.2.2.1
  have e15 : Y.1 15 = nI u := by rw [m1, zq_upd, if_neg (by decide)]; exact d4.2.2.2.2.1
  refine zq_D_add h hI ⟨⟨r2, by rw [m1, zq_upd, if_pos rfl], by omega, by omega⟩, ⟨e1, e15, Nat.le_refl _, d6⟩, r1.1, fun i _ => by rw [r5 0 (by decide)], fun r x y j hj => rw1 r j x y hj, fun i _ => by rw [m2 16 (by decide)], fun j hj => ?_⟩ (fun j x y => ?_) (fun j x y => absurd x (by omega)) ?_ ?_ ?_ ?_ (fun b hb => r5 b (by omega)) (fun b hb => m2 b (by omega)) ?_
  · rw [m3]
    show (if j = t then _ else M.2.2 j) = M.2.2 j
    rw [if_neg (by omega)]
  · have hj : j = t := by omega
    subst hj
    refine zp_tok_mk (q := u) (w := 0) (u := u) r1 ?_ ?_ ?_ ?_ ?_ ?_ ?_ ?_ ?_ ?_ ?_ ?_ e1 (by omega) d6 (fun i hi => absurd hi (by omega)) (fun z => absurd z h2) (fun z => absurd z h4)
    · rw [m4, zq_upd, if_pos rfl]; rfl
    · rw [m5, zq_upd, if_pos rfl, s5]; exact s1.symm
    · rw [m6, zq_upd, if_pos rfl, s6]; exact s2.symm
    · rw [m7, zq_upd, if_pos rfl, s7]; exact s3.symm
    · rw [m8, zq_upd, if_pos rfl]; rfl
    · rw [m9, zq_upd, if_pos rfl]; rfl
    · rw [m10, zq_upd, if_pos rfl]; rfl
    · rw [m11, zq_upd, if_pos rfl]; rfl
    · show N.1 1 - N.1 57 = _
      rw [d4.2.2.2.1, s4]
      exact Int32.sub_self _
    · rw [m13, zq_upd, if_pos rfl]; rfl
    · exact s4
    · rw [m12, zq_upd, if_pos rfl]; exact d4.2.2.2.2.1
  · rw [r4 65 (by decide) (by decide)]; exact d2
  · rw [m1, zq_upd, if_neg (by decide)]; exact d3
  · exact r4 24 (by decide) (by decide)
  · rw [m1, zq_upd, if_neg (by decide)]
  · rw [r3, zk_ends_asks, zr_last_at (by rw [m1, zq_upd, if_pos rfl]) ht, m4, zq_upd, if_pos rfl]
theorem zc_row_tl {X : zc_N} {t : Nat} {r f : Nat → Int32} (w : Nat) (l v : Int32) (hw9 : nI w = l) (h71 : X.1 71 = nI (t + 1)) (hL : (t + 1) * 11 ≤ X.2.2.2 70) (hl : X.2.2.2 70 ≤ 200000) (hw : w < 11) (h : zc_row X t r f) : zc_row (zc_tell X l v) t r (upd f w v) ∧ (zc_tell X l v).1 = X.1 ∧ (∀ a : Nat, a ≠ 70 → (zc_tell X l v).2.1 a = X.2.1 a) ∧ (zc_tell X l v).2.2 = X.2.2 := by
  subst hw9
  exact zc_row_tell h71 hL hl hw h
/-- the semicolon that a line's end stands for -/
theorem zq_D_semi {T : Nat → Int32} {n : Nat} {N : zc_N} {M : zm_M} {t k u a : Nat} (h : zq_D T n N M t k u) (hs : zq_st T n N M a u) (ht : t < 16384) : zk_endLine N = 1 ∧ (∃ t' : Nat, t ≤ t' ∧ t' ≤ t + 1 ∧ zq_D T n (zc_endLine N) (zm_semicolon M) t' k u) ∧ (∀ j : Nat, j ≠ 71 → j ≠ 58 → (zc_endLine N).1 j = N.1 j) ∧ (∀ b : Nat, b ≠ 70 → (zc_endLine N).2.1 b = N.2.1 b) ∧ (∀ j : Nat, j ≠ 3 → (zm_semicolon M).1 j = M.1 j) ∧ (∀ r : Nat, r < 4 ∨ 13 < r → (zm_semicolon M).2.1 r = M.2.1 r) ∧ zr_asks (zr_last (zm_semicolon M)) = 0 := by
  have h9 := h
  obtain ⟨d1, d2, d3, ⟨d4, d5, d6⟩, ⟨d7, d8, d9, d10⟩, d11⟩ := h9
  by_cases c : N.1 58 = 0
  · have c2 : zr_asks (zr_last M) = 0 := d11.symm.trans c
    have e1 : zc_endLine N = N := by unfold zc_endLine; rw [if_pos c]
    have e2 : zm_semicolon M = M := by unfold zm_semicolon; rw [if_pos c2]
    rw [e1, e2]
    exact ⟨by unfold zk_endLine; rw [if_pos c], ⟨t, Nat.le_refl _, by omega, h⟩, fun _ _ _ => rfl, fun _ _ => rfl, fun _ _ => rfl, fun _ _ => rfl, c2⟩
  · have hf0 : N.1 71 < 16384 := by rw [d4.1]; exact nI_lt ht (by decide)
    have hfu : zk_isFull N = 0 := by unfold zk_isFull; rw [if_pos hf0]
    have c2 : ¬ zr_asks (zr_last M) = 0 := fun z => c (d11.trans z)
    have e1 : zc_endLine N = zc_tell (zc_from N 85 0) 5 1 := by unfold zc_endLine; rw [if_neg c, if_pos hfu]
    have e2 : zm_semicolon M = zm_token M 85 0 1 := by unfold zm_semicolon; rw [if_neg c2]
    rw [e1, e2]
    obtain ⟨⟨s1, s2, s3, s4⟩, s5, s6, s7⟩ := hs
    have hI : zc_I (zc_tell (zc_from N 85 0) 5 1) := zi_tell (zi_from d1 (by rw [d4.1]; exact nI_lt ht (by decide)) 85 0) _ _
    have hI0 : zc_I (zc_from N 85 0) := zi_from d1 (by rw [d4.1]; exact nI_lt ht (by decide)) 85 0
    obtain ⟨r1, r2, r3, r4, r5, r6, r7⟩ := zc_from_at d1 d4.1 ht 85 0
    obtain ⟨m1, ⟨m4, m5, m6, m7, m8, m9, m10, m11, m12, m13⟩, m2, m3⟩ := zm_token_at d4.2.1 ht 85 0 1
    have rw1 := zm_token_row d4.2.1 ht 85 0 1
    have hL : (t + 1) * 11 ≤ (zc_from N 85 0).2.2.2 70 := by
      obtain ⟨t9, x1, x2, x3⟩ := hI0.2.2.1
      have : t9 = t + 1 := z_injC (by omega) (by omega) (x1.symm.trans r2)
      omega
    have hl := (zc_len hI0 70 (by decide)).2
    obtain ⟨q1, q2, q3, -⟩ := zc_row_tl 5 5 1 rfl r2 hL hl (by decide) r1
    generalize zc_tell (zc_from N 85 0) 5 1 = X at hI q1 q2 q3 ⊢
    generalize zm_token M 85 0 1 = Y at m1 m4 m5 m6 m7 m8 m9 m10 m11 m12 m13 m2 m3 rw1 ⊢
    rw [← q2] at r2 r3 r4
    have r5 : ∀ a : Nat, a ≠ 70 → X.2.1 a = N.2.1 a := fun a ha => (q3 a ha).trans (r5 a ha)
    have e1 : X.1 1 = nI u := (r4 1 (by decide) (by decide)).trans d4.2.2.2.1
    have e15 : Y.1 15 = nI u := by rw [m1, zq_upd, if_neg (by decide)]; exact d4.2.2.2.2.1
    have el : zr_last Y = 85 := by rw [zr_last_at (by rw [m1, zq_upd, if_pos rfl]) ht, m4, zq_upd, if_pos rfl]
    refine ⟨by unfold zk_endLine; rw [if_neg c, if_pos hfu], ⟨t + 1, by omega, by omega, ?_⟩, r4, r5, fun j hj => by rw [m1, zq_upd, if_neg hj], m2, by rw [el]; decide⟩
    refine zq_D_add h hI ⟨⟨r2, by rw [m1, zq_upd, if_pos rfl], by omega, by omega⟩, ⟨e1, e15, Nat.le_refl _, d6⟩, q1.1, fun i _ => by rw [r5 0 (by decide)], fun r x y j hj => rw1 r j x y hj, fun i _ => by rw [m2 16 (by decide)], fun j hj => ?_⟩ (fun j x y => ?_) (fun j x y => absurd x (by omega)) ?_ ?_ ?_ ?_ (fun b hb => r5 b (by omega)) (fun b hb => m2 b (by omega)) ?_
    · rw [m3]
      show (if j = t then _ else M.2.2 j) = M.2.2 j
      rw [if_neg (by omega)]
    · have hj : j = t := by omega
      subst hj
      refine zp_tok_mk (q := u) (w := 0) (u := u) q1 ?_ ?_ ?_ ?_ ?_ ?_ ?_ ?_ ?_ ?_ ?_ ?_ e1 (by omega) d6 (fun i hi => absurd hi (by omega)) (fun z => absurd z (show ¬ (85 : Int32) = 2 by decide)) (fun z => absurd z (show ¬ (85 : Int32) = 4 by decide))
      · rw [m4, zq_upd, if_pos rfl]; rfl
      · rw [m5, zq_upd, if_pos rfl, s5]; exact s1.symm
      · rw [m6, zq_upd, if_pos rfl, s6]; exact s2.symm
      · rw [m7, zq_upd, if_pos rfl, s7]; exact s3.symm
      · rw [m8, zq_upd, if_pos rfl]; rfl
      · show (1 : Int32) = if Y.2.1 9 j = 0 then 0 else 1
        rw [m9, zq_upd, if_pos rfl]
        decide
      · rw [m10, zq_upd, if_pos rfl]; rfl
      · rw [m11, zq_upd, if_pos rfl]; rfl
      · show N.1 1 - N.1 57 = _
        rw [d4.2.2.2.1, s4]
        exact Int32.sub_self _
      · rw [m13, zq_upd, if_pos rfl]; rfl
      · exact s4
      · rw [m12, zq_upd, if_pos rfl]; exact d4.2.2.2.2.1
    · rw [r4 65 (by decide) (by decide)]; exact d2
    · rw [m1, zq_upd, if_neg (by decide)]; exact d3
    · exact r4 24 (by decide) (by decide)
    · rw [m1, zq_upd, if_neg (by decide)]
    · rw [r3, zk_ends_asks, el]
