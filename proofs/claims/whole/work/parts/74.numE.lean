/-! Numbers: their bytes, their end. -/
def zq_nl (T : Nat → Int32) (n a : Nat) : Nat → List Int32
  | 0 => []
  | i + 1 => if zq_x T n (a + i) = 95 then zq_nl T n a i else zq_nl T n a i ++ [zq_x T n (a + i)]
theorem zq_nl_len (T : Nat → Int32) (n a : Nat) : ∀ i : Nat, (zq_nl T n a i).length ≤ i := by
  intro i
  induction i with
  | zero => exact Nat.le_refl _
  | succ i ih =>
    show (if zq_x T n (a + i) = 95 then zq_nl T n a i else zq_nl T n a i ++ [zq_x T n (a + i)]).length ≤ i + 1
    split
    · omega
    · rw [List.length_append]
      show _ + 1 ≤ i + 1
      omega
theorem zq_getD_l {l : List Int32} {x : Int32} {j : Nat} (h : j < l.length) : (l ++ [x]).getD j 0 = l.getD j 0 := by
  rw [List.getD_eq_getElem?_getD, List.getD_eq_getElem?_getD, List.getElem?_append_left h]
theorem zq_getD_r {l : List Int32} {x : Int32} : (l ++ [x]).getD l.length 0 = x := by
  rw [List.getD_eq_getElem?_getD, List.getElem?_append_right (Nat.le_refl _), Nat.sub_self]
  rfl
/-- the class inside a number begun at a -/
def zq_nI (T : Nat → Int32) (n : Nat) (N0 X : zc_N) (a c u : Nat) : Prop := zc_I X ∧ zc_Fr N0 X ∧ zq_ct T n X c ∧ X.1 65 = 0 ∧ (∀ i : Nat, i < u → X.2.1 0 i = N0.2.1 0 i) ∧ X.1 1 = nI (u + (zq_nl T n a (c - a)).length) ∧ (∀ j : Nat, j < (zq_nl T n a (c - a)).length → X.2.1 0 (u + j) = vp_nar .byte ((zq_nl T n a (c - a)).getD j 0).toInt8.toInt32) ∧ a ≤ c ∧ c ≤ n
section
variable {T : Nat → Int32} {n : Nat} {N0 X : zc_N} {a c u : Nat}
theorem zq_nI_keep (hT : zq_T T n) (h : zq_nI T n N0 X a c u) (hc : c < n) (hx : ¬ zq_x T n c = 95) (hu : u ≤ 20000) : zq_nI T n N0 (zc_keepB X) a (c + 1) u := by
  have hn := hT.1
  obtain ⟨h1, h2, h3, h4, h5, h6, h7, h8, h9⟩ := h
  have hl := zq_nl_len T n a (c - a)
  have el : zq_nl T n a (c + 1 - a) = zq_nl T n a (c - a) ++ [zq_x T n c] := by
    rw [show c + 1 - a = (c - a) + 1 from by omega]
    show (if zq_x T n (a + (c - a)) = 95 then _ else zq_nl T n a (c - a) ++ [zq_x T n (a + (c - a))]) = _
    rw [show a + (c - a) = c from by omega, if_neg hx]
  obtain ⟨a1, a2, a3, a4, a5⟩ := zc_append_at h1 h6 (by omega) (zk_here X)
  have hh : zk_here X = zq_x T n c := zk_here_at hT h3 (by omega)
  have hc2 : zq_ct T n (zc_append X (zk_here X)) c := zq_ct_eq h3 (fun j hj => a4 j (by omega)) (a5 60 (by decide))
  have e2 : (zc_keepB X).2 = (zc_append X (zk_here X)).2 := zc_step_2
  refine ⟨zi_step (zi_append h1 _), h2.tr zf_keepB, zc_step_at hT hc2 hc, ?_, fun i hi => ?_, ?_, fun j hj => ?_, by omega, hc⟩
  · show (zc_step (zc_append X (zk_here X))).1 65 = 0
    rw [zc_step_1 (by decide) (by decide) (by decide), a4 65 (by decide)]
    exact h4
  · rw [e2, a2 i (by omega)]; exact h5 i hi
  · show (zc_step (zc_append X (zk_here X))).1 1 = _
    rw [zc_step_1 (by decide) (by decide) (by decide), a1, el, List.length_append]
    rfl
  · rw [el, List.length_append] at hj
    have hj : j < (zq_nl T n a (c - a)).length + 1 := hj
    rw [e2, el]
    rcases Nat.lt_or_ge j (zq_nl T n a (c - a)).length with z | z
    · rw [a2 (u + j) (by omega), h7 j z, zq_getD_l z]
    · have e : j = (zq_nl T n a (c - a)).length := by omega
      rw [e, a3, zq_getD_r, hh]
theorem zq_nI_skip (hT : zq_T T n) (h : zq_nI T n N0 X a c u) (hx : zq_x T n c = 95) : zq_nI T n N0 (zc_step X) a (c + 1) u := by
  have hn := hT.1
  have hc : c < n := zq_lt (by rw [hx]; decide)
  obtain ⟨h1, h2, h3, h4, h5, h6, h7, h8, h9⟩ := h
  have el : zq_nl T n a (c + 1 - a) = zq_nl T n a (c - a) := by
    rw [show c + 1 - a = (c - a) + 1 from by omega]
    show (if zq_x T n (a + (c - a)) = 95 then zq_nl T n a (c - a) else _) = _
    rw [show a + (c - a) = c from by omega, if_pos hx]
  refine ⟨zi_step h1, h2.tr zf_step, zc_step_at hT h3 hc, ?_, fun i hi => ?_, ?_, fun j hj => ?_, by omega, hc⟩
  · rw [zc_step_1 (by decide) (by decide) (by decide)]; exact h4
  · rw [zc_step_2]; exact h5 i hi
  · rw [zc_step_1 (by decide) (by decide) (by decide), el]; exact h6
  · rw [el] at hj
    rw [zc_step_2, el]
    exact h7 j hj
theorem zm_keeps_congr {M : zm_M} {f g : Nat → Int32} : ∀ m : Nat, (∀ j : Nat, j < m → f j = g j) → zm_keeps M f m = zm_keeps M g m := by
  intro m
  induction m with
  | zero => intro _; rfl
  | succ m ih =>
    intro h
    rw [zm_keeps_s, zm_keeps_s, ih (fun j hj => h j (by omega)), h m (by omega)]
theorem zm_keepN_at {M : zm_M} {f : Nat → Int32} : ∀ i : Nat, (∀ j : Nat, j < i → f j = zq_x T n (a + j)) → zm_keepN M f i = zm_keeps M (fun j => (zq_nl T n a i).getD j 0) (zq_nl T n a i).length := by
  intro i
  induction i with
  | zero => intro _; rfl
  | succ i ih =>
    intro h
    show (if f i = 95 then zm_keepN M f i else zm_keep (zm_keepN M f i) (f i)) = _
    rw [ih (fun j hj => h j (by omega)), h i (by omega)]
    by_cases z : zq_x T n (a + i) = 95
    · have e : zq_nl T n a (i + 1) = zq_nl T n a i := by
        show (if zq_x T n (a + i) = 95 then zq_nl T n a i else _) = _
        rw [if_pos z]
      rw [if_pos z, e]
    · have e : zq_nl T n a (i + 1) = zq_nl T n a i ++ [zq_x T n (a + i)] := by
        show (if zq_x T n (a + i) = 95 then zq_nl T n a i else _) = _
        rw [if_neg z]
      rw [if_neg z, e, List.length_append]
      show _ = zm_keep (zm_keeps M (fun j => (zq_nl T n a i ++ [zq_x T n (a + i)]).getD j 0) (zq_nl T n a i).length) ((zq_nl T n a i ++ [zq_x T n (a + i)]).getD (zq_nl T n a i).length 0)
      rw [zq_getD_r, zm_keeps_congr (f := fun j => (zq_nl T n a i ++ [zq_x T n (a + i)]).getD j 0) (g := fun j => (zq_nl T n a i).getD j 0) _ (fun j hj => zq_getD_l hj)]
end
theorem zk_lows_snoc {Z : zc_N} {k b : Int32} : ∀ (m i : Nat) (v : Int64), zk_lows Z k b (m + 1) i v = zk_lows Z k b m i v * b.toInt64 + (zk_digitOf (zk_byteOf Z k (nI (i + m))) b).toInt64 := by
  intro m
  induction m with
  | zero => intro i v; rfl
  | succ m ih =>
    intro i v
    rw [zk_lows_s (show m + 1 + 1 = (m + 1) + 1 from rfl), ih (i + 1), zk_lows_s (show m + 1 = m + 1 from rfl), show i + 1 + m = i + (m + 1) from by omega]
/-- the reference's value, digit by digit: the class's -/
theorem zm_value_at {M : zm_M} {Z : zc_N} {t p s b : Nat} (ht : t < 16384) (h22 : M.1 22 = nI b) (h0 : M.2.2 t = 0) : ∀ m : Nat, p + m ≤ 60000 → (∀ i : Nat, i < m → zk_digitOf (zk_byteOf Z (nI t) (nI (s + i))) (nI b) = zr_worth (M.2.1 16 (p + i))) → (zm_value M (nI t) (nI p) m).1 = M.1 ∧ (zm_value M (nI t) (nI p) m).2.1 = M.2.1 ∧ (∀ j : Nat, j ≠ t → (zm_value M (nI t) (nI p) m).2.2 j = M.2.2 j) ∧ (zm_value M (nI t) (nI p) m).2.2 t = zk_lows Z (nI t) (nI b) m s 0 := by
  intro m
  induction m with
  | zero => intro _ _; exact ⟨rfl, rfl, fun _ _ => rfl, h0⟩
  | succ m ih =>
    intro hp h
    obtain ⟨i1, i2, i3, i4⟩ := ih (by omega) (fun i hi => h i (by omega))
    have e : zm_value M (nI t) (nI p) (m + 1) = zm_v (zm_value M (nI t) (nI p) m) (nI t) ((zm_value M (nI t) (nI p) m).2.2 (nI t).toNatClampNeg * ((zm_value M (nI t) (nI p) m).1 22).toInt64 + (zr_worth ((zm_value M (nI t) (nI p) m).2.1 16 (nI p + nI m).toNatClampNeg)).toInt64) := rfl
    rw [e]
    generalize zm_value M (nI t) (nI p) m = K at i1 i2 i3 i4
    have c1 : (nI t).toNatClampNeg = t := nI_clamp (by omega)
    have c2 : (nI p + nI m).toNatClampNeg = p + m := by rw [nI_add, nI_clamp (by omega)]
    rw [c1, c2, i1, i2, i4, h22, zk_lows_snoc, h m (by omega)]
    refine ⟨rfl, rfl, fun j hj => ?_, ?_⟩
    · show vp_updL K.2.2 (nI t).toNatClampNeg _ j = _
      rw [c1]
      show (if j = t then _ else K.2.2 j) = _
      rw [if_neg hj]
      exact i3 j hj
    · show vp_updL K.2.2 (nI t).toNatClampNeg _ t = _
      rw [c1]
      show (if t = t then _ else K.2.2 t) = _
      rw [if_pos rfl]
section
variable {T : Nat → Int32} {n : Nat} {N0 X : zc_N} {Y : zm_M} {a c t k u : Nat} {s : Int32}
/-- a number put by both: b its base, 0 for one with a point or an exponent -/
theorem zq_numE (hT : zq_T T n) (hm : zq_mid T n N0 Y c a t k u s) (hX : zq_nI T n N0 X a c u) (hac : a < c) (hta : t ≤ a) (hua : u ≤ a) {q : Int32} {b : Nat} (hb : b < 100) (hq : (q = 0 ∧ b = 0) ∨ (¬ q = 0 ∧ ¬ b = 0 ∧ Y.1 22 = nI b ∧ ∃ s0 : Nat, zp_int (fun i => vp_nar .byte ((zq_nl T n a (c - a)).getD (i - u) 0).toInt8.toInt32) u (zq_nl T n a (c - a)).length s0 b)) : zq_D T n (zc_putNumber X (nI b)) (zm_number Y q) (t + 1) k (u + (zq_nl T n a (c - a)).length) ∧ (∀ j : Nat, j ≠ 71 → j ≠ 58 → (zc_putNumber X (nI b)).1 j = X.1 j) ∧ (zc_putNumber X (nI b)).2.1 60 = X.2.1 60 ∧ (∀ j : Nat, j ≠ 3 → j ≠ 15 → (zm_number Y q).1 j = Y.1 j) ∧ (zm_number Y q).2.1 1 = Y.2.1 1 := by
  have hn := hT.1
  obtain ⟨hD, ⟨⟨s1, s2, s3, s4⟩, s5, s6, s7⟩, hmt, h21⟩ := hm
  obtain ⟨x1, x2, x3, x4, x5, x6, x7, x8, x9⟩ := hX
  have hK := hD.2.2.2.1.1
  have hl := zq_nl_len T n a (c - a)
  -- the class
  have e54 : X.1 54 = nI a := (x2.1 54 (by decide) (by decide) (by decide) (by decide) (by decide) (by decide)).trans s1
  have e55 : X.1 55 = N0.1 55 := x2.1 55 (by decide) (by decide) (by decide) (by decide) (by decide) (by decide)
  have e56 : X.1 56 = N0.1 56 := x2.1 56 (by decide) (by decide) (by decide) (by decide) (by decide) (by decide)
  have e57 : X.1 57 = nI u := (x2.1 57 (by decide) (by decide) (by decide) (by decide) (by decide) (by decide)).trans s4
  have el : X.1 62 - X.1 54 = nI (c - a) := by rw [x3.2.2.1, e54, pk_sub x8]
  have hkd : zk_ni (nI b) = zr_nk q := by
    unfold zk_ni zr_nk
    rcases hq with ⟨z1, z2⟩ | ⟨z1, z2, -⟩
    · rw [if_pos z1, if_pos (by rw [z2]; rfl)]
    · rw [if_neg z1, if_neg (show ¬ nI b = 0 from fun z => z2 (z_injC (b := 0) (by omega) (by omega) z))]
  have ep : zc_putNumber X (nI b) = zc_tell (zc_from X (zr_nk q) (nI (c - a))) 7 (nI b) := by
    unfold zc_putNumber zc_putT
    rw [if_neg (zq_nm1' b (by omega)), hkd, el]
  rw [ep]
  obtain ⟨c1, c2, c3, c4, c5, c6, c7, c8, c9, c10⟩ := zq_from x1 x2 hK.1 (show t < 16384 by omega) (zr_nk q) (nI (c - a))
  obtain ⟨q1, q2, q3, q4⟩ := zc_row_tl 7 7 (nI b) rfl c2 c9 c10 (by decide) c6
  have hIt : zc_I (zc_tell (zc_from X (zr_nk q) (nI (c - a))) 7 (nI b)) := zi_tell c1 _ _
  generalize zc_from X (zr_nk q) (nI (c - a)) = P at c1 c2 c3 c4 c5 c6 c7 c8 c9 c10 q1 q2 q3 q4 hIt ⊢
  generalize zc_tell P 7 (nI b) = Q at q1 q2 q3 q4 hIt ⊢
  -- the reference
  have eL : Y.1 27 - Y.1 23 = nI (c - a) := by rw [hmt.2.2.1, s5, pk_sub x8]
  obtain ⟨m1, ⟨m4, m5, m6, m7, m8, m9, m10, m11, m12, m13⟩, m2, m22⟩ := zm_token_at hK.2.1 (show t < 16384 by omega) (zr_nk q) (nI (c - a)) 0
  have rw1 := zm_token_row hK.2.1 (show t < 16384 by omega) (zr_nk q) (nI (c - a)) 0
  obtain ⟨W, hW⟩ : ∃ W : zm_M, W = zm_token Y (zr_nk q) (nI (c - a)) 0 := ⟨_, rfl⟩
  rw [← hW] at m1 m4 m5 m6 m7 m8 m9 m10 m11 m12 m13 m2 m22
  have rw1 : ∀ r j : Nat, 4 ≤ r → r ≤ 13 → j < t → W.2.1 r j = Y.2.1 r j := fun r j a b d => by rw [hW]; exact rw1 r j a b d
  have wo : ∀ j : Nat, j ≠ 3 → W.1 j = Y.1 j := fun j a => by rw [m1, zq_upd, if_neg a]
  have w3 : W.1 3 = nI (t + 1) := by rw [m1, zq_upd, if_pos rfl]
  obtain ⟨M2, hM2⟩ : ∃ M2 : zm_M, M2 = zm_a W 11 (nI t) (zr_nb q (W.1 22)) := ⟨_, rfl⟩
  have a1 : M2.1 = W.1 := by rw [hM2]
  have a2 : M2.2.2 = W.2.2 := by rw [hM2]
  have a11 : M2.2.1 11 = upd (W.2.1 11) t (zr_nb q (W.1 22)) := by
    rw [hM2]
    show (if 11 = 11 then upd (W.2.1 11) (nI t).toNatClampNeg (zr_nb q (W.1 22)) else W.2.1 11) = _
    rw [if_pos rfl, nI_clamp (by omega)]
  have ao : ∀ r : Nat, r ≠ 11 → M2.2.1 r = W.2.1 r := fun r hr => by
    rw [hM2]
    show (if r = 11 then _ else W.2.1 r) = _
    rw [if_neg hr]
  have a15 : M2.1 15 = nI u := by rw [a1, wo 15 (by decide)]; exact hK.2.2.2.2.1
  have hmt2 : zq_mt T n M2 c := zq_mt_eq hmt (fun j hj => by rw [a1]; exact wo j (by omega)) (by rw [ao 1 (by decide), m2 1 (by decide)])
  obtain ⟨M3, hM3⟩ : ∃ M3 : zm_M, M3 = zm_keepN M2 (fun j => zr_byteAt M2 (W.1 23 + nI j)) (c - a) := ⟨_, rfl⟩
  have eN : M3 = zm_keeps M2 (fun j => (zq_nl T n a (c - a)).getD j 0) (zq_nl T n a (c - a)).length := by
    rw [hM3]
    refine zm_keepN_at (c - a) (fun j hj => ?_)
    show zr_byteAt M2 (W.1 23 + nI j) = _
    rw [wo 23 (by decide), s5, nI_add, zr_byteAt_at hT hmt2 (by omega)]
  obtain ⟨k1, k2, k3, k4, k5, k6⟩ := zm_keeps_at a15 (fun j => (zq_nl T n a (c - a)).getD j 0) (zq_nl T n a (c - a)).length (by omega)
  rw [← eN] at k1 k2 k3 k4 k5 k6
  clear eN
  obtain ⟨M4, hM4⟩ : ∃ M4 : zm_M, M4 = zm_a M3 13 (nI t) (nI (zq_nl T n a (c - a)).length) := ⟨_, rfl⟩
  have b1 : M4.1 = M3.1 := by rw [hM4]
  have b2 : M4.2.2 = M3.2.2 := by rw [hM4]
  have b13 : M4.2.1 13 = upd (M3.2.1 13) t (nI (zq_nl T n a (c - a)).length) := by
    rw [hM4]
    show (if 13 = 13 then upd (M3.2.1 13) (nI t).toNatClampNeg (nI (zq_nl T n a (c - a)).length) else M3.2.1 13) = _
    rw [if_pos rfl, nI_clamp (by omega)]
  have bo : ∀ r : Nat, r ≠ 13 → M4.2.1 r = M3.2.1 r := fun r hr => by
    rw [hM4]
    show (if r = 13 then _ else M3.2.1 r) = _
    rw [if_neg hr]
  have r12 : M3.2.1 12 t = nI u := by rw [k5 12 (by decide), ao 12 (by decide), m12, zq_upd, if_pos rfl]; exact hK.2.2.2.2.1
  have en : zm_number Y q = if q = 0 then M4 else zm_value M4 (nI t) (zr_digitsFrom M4 (nI t)) (M4.1 15 - zr_digitsFrom M4 (nI t)).toNatClampNeg := by
    have d1 : W.1 30 < 0 := by rw [wo 30 (by decide), hD.2.2.1]; exact zq_m1
    have d2 : W.1 3 - 1 = nI t := by rw [w3, nI_pred]
    have d3 : (W.1 27 - W.1 23).toNatClampNeg = c - a := by rw [wo 27 (by decide), wo 23 (by decide), eL, nI_clamp (by omega)]
    have d4 : M3.1 15 - M3.2.1 12 (nI t).toNatClampNeg = nI (zq_nl T n a (c - a)).length := by rw [k2, nI_clamp (by omega), r12, pk_sub (by omega), Nat.add_sub_cancel_left]
    unfold zm_number
    rw [eL, ← hW]
    dsimp only
    rw [if_neg (fun z => z d1), d2, ← hM2, d3, ← hM3, d4, ← hM4, b1]
  have v0 : M4.2.2 t = 0 := by
    rw [b2, k6, a2, m22]
    show (if t = t then _ else _) = _
    rw [if_pos rfl]
  have p16 : ∀ i : Nat, i < (zq_nl T n a (c - a)).length → M4.2.1 16 (u + i) = vp_nar .byte ((zq_nl T n a (c - a)).getD i 0).toInt8.toInt32 := fun i hi => by rw [bo 16 (by decide)]; exact k4 i hi
  have p0 : ∀ i : Nat, i < (zq_nl T n a (c - a)).length → Q.2.1 0 (u + i) = M4.2.1 16 (u + i) := fun i hi => by rw [p16 i hi, q3 0 (by decide), c5]; exact x7 i hi
  have t11 : M4.2.1 11 t = nI b := by
    rw [bo 11 (by decide), k5 11 (by decide), a11, zq_upd, if_pos rfl]
    unfold zr_nb
    rcases hq with ⟨z1, z2⟩ | ⟨z1, z2, z3, -⟩
    · rw [if_pos z1, z2]; rfl
    · rw [if_neg z1, wo 22 (by decide), z3]
  have t13 : M4.2.1 13 t = nI (zq_nl T n a (c - a)).length := by rw [b13, zq_upd, if_pos rfl]
  have t12 : M4.2.1 12 t = nI u := by rw [bo 12 (by decide)]; exact r12
  have o4 : ∀ j : Nat, j ≠ 3 → j ≠ 15 → M4.1 j = Y.1 j := fun j a b => by rw [b1, k1 j b, a1, wo j a]
  have z1Q : Q.1 1 = nI (u + (zq_nl T n a (c - a)).length) := by rw [q2, c8 1 (by decide) (by decide)]; exact x6
  have z71Q : Q.1 71 = nI (t + 1) := by rw [q2]; exact c2
  -- what the value's row may be
  have main : ∀ V : zm_M, V.1 = M4.1 → V.2.1 = M4.2.1 → (∀ j : Nat, j ≠ t → V.2.2 j = M4.2.2 j) → (¬ q = 0 → V.2.2 t = zk_lowBits Q (nI t)) → zq_D T n Q V (t + 1) k (u + (zq_nl T n a (c - a)).length) ∧ (∀ j : Nat, j ≠ 71 → j ≠ 58 → Q.1 j = X.1 j) ∧ Q.2.1 60 = X.2.1 60 ∧ (∀ j : Nat, j ≠ 3 → j ≠ 15 → V.1 j = Y.1 j) ∧ V.2.1 1 = Y.2.1 1 := by
    intro V V1 V2 V3 V4
    refine ⟨?_, fun j a b => by rw [q2]; exact c8 j a b, ?_, fun j a b => by rw [V1]; exact o4 j a b, ?_⟩
    · refine zq_D_tok hD (show t < 16384 by omega) (by omega) hIt z71Q z1Q ?_ (by rw [q2]; exact c3) (fun b hb => by rw [q3 b (by omega)]; exact c4 b (by omega) (by omega)) q1 (fun i hi => ?_) (by rw [q2]; exact c7) ?_ ?_ ?_ ?_ (fun r x y j hj => ?_) (fun b hb => ?_) (fun i hi => ?_) (fun j hj => ?_) ?_ ?_ ?_ ?_ ?_ ?_ ?_ ?_ ?_ ?_ ?_ ?_ (fun i hi => by rw [V2]; exact p0 i hi) (fun z => ?_) (fun z => ?_)
      · rw [q2, c8 65 (by decide) (by decide)]; exact x4
      · rw [q3 0 (by decide), c5]; exact x5 i hi
      · rw [V1, b1, k1 3 (by decide), a1, w3]
      · rw [V1, b1, k2]
      · rw [V1]; exact o4 17 (by decide) (by decide)
      · rw [V1, o4 30 (by decide) (by decide)]; exact hD.2.2.1
      · rw [V2]
        by_cases z : r = 13
        · subst z
          rw [b13, zq_upd, if_neg (by omega), k5 13 (by decide), ao 13 (by decide), rw1 13 j x y hj]
        · rw [bo r z, k5 r (by omega)]
          by_cases z2 : r = 11
          · subst z2
            rw [a11, zq_upd, if_neg (by omega), rw1 11 j x y hj]
          · rw [ao r z2, rw1 r j x y hj]
      · rw [V2, bo b (by omega), k5 b (by omega), ao b (by omega), m2 b (by omega)]
      · rw [V2, bo 16 (by decide), k3 i hi, ao 16 (by decide), m2 16 (by decide)]
      · rw [V3 j (by omega), b2, k6, a2, m22]
        show (if j = t then _ else Y.2.2 j) = Y.2.2 j
        rw [if_neg (by omega)]
      · rw [V2, bo 4 (by decide), k5 4 (by decide), ao 4 (by decide), m4, zq_upd, if_pos rfl]; rfl
      · rw [V2, bo 5 (by decide), k5 5 (by decide), ao 5 (by decide), m5, zq_upd, if_pos rfl, s5]; exact e54.symm
      · rw [V2, bo 6 (by decide), k5 6 (by decide), ao 6 (by decide), m6, zq_upd, if_pos rfl, s6]; exact (e55.trans s2).symm
      · rw [V2, bo 7 (by decide), k5 7 (by decide), ao 7 (by decide), m7, zq_upd, if_pos rfl, s7]; exact (e56.trans s3).symm
      · rw [V2, bo 8 (by decide), k5 8 (by decide), ao 8 (by decide), m8, zq_upd, if_pos rfl]; rfl
      · have e9 : V.2.1 9 t = vp_nar .boolean 0 := by rw [V2, bo 9 (by decide), k5 9 (by decide), ao 9 (by decide), m9, zq_upd, if_pos rfl]
        rw [e9]
        rfl
      · rw [V2, bo 10 (by decide), k5 10 (by decide), ao 10 (by decide), m10, zq_upd, if_pos rfl]; rfl
      · rw [V2, t11]; rfl
      · show X.1 1 - X.1 57 = _
        rw [x6, e57, pk_sub (by omega), Nat.add_sub_cancel_left]
      · rw [V2]; exact t13
      · exact e57
      · rw [V2]; exact t12
      · have z : zr_nk q = 2 := z
        have hq0 : ¬ q = 0 := fun y => by
          unfold zr_nk at z
          rw [if_pos y] at z
          exact absurd z (by decide)
        rcases hq with ⟨y1, -⟩ | ⟨-, -, -, s0, y⟩
        · exact absurd y1 hq0
        · refine ⟨⟨s0, b, by rw [V2]; exact t11, ?_⟩, V4 hq0⟩
          rw [V2]
          refine zp_int_eq y (fun i hi => ?_)
          rw [p16 i hi]
          show _ = vp_nar .byte ((zq_nl T n a (c - a)).getD (u + i - u) 0).toInt8.toInt32
          rw [Nat.add_sub_cancel_left]
      · have z : zr_nk q = 4 := z
        exfalso
        unfold zr_nk at z
        split at z <;> exact absurd z (by decide)
    · rw [q3 60 (by decide), c4 60 (by decide) (by decide)]
      exact (x2.2.1 60 (by decide)).symm
    · rw [V2, bo 1 (by decide), k5 1 (by decide), ao 1 (by decide), m2 1 (by decide)]
  rw [en]
  by_cases q0 : q = 0
  · rw [if_pos q0]
    exact main M4 rfl rfl (fun _ _ => rfl) (fun z => absurd q0 z)
  · rw [if_neg q0]
    rcases hq with ⟨y1, -⟩ | ⟨-, y2, y3, s0, y4⟩
    · exact absurd y1 q0
    · have hint : zp_int (M4.2.1 16) u (zq_nl T n a (c - a)).length s0 b := by
        refine zp_int_eq y4 (fun i hi => ?_)
        rw [p16 i hi]
        show _ = vp_nar .byte ((zq_nl T n a (c - a)).getD (u + i - u) 0).toInt8.toInt32
        rw [Nat.add_sub_cancel_left]
      have hdf := zr_from_eq (show t < 16384 by omega) t12 t13 t11 (by omega) hint
      have hs0 : s0 < (zq_nl T n a (c - a)).length := hint.1
      have e15 : (M4.1 15 - nI (u + s0)).toNatClampNeg = (zq_nl T n a (c - a)).length - s0 := by
        rw [b1, k2, pk_sub (by omega), nI_clamp (by omega)]
        omega
      rw [hdf, e15]
      -- the class's facts of the token
      have hasQ : zk_has Q (nI t) = 1 := by
        unfold zk_has
        rw [z71Q, if_neg]
        rintro (z | z)
        · exact nI_pos (by omega) z
        · exact z (nI_lt (by omega) (by omega))
      have factQ : ∀ i : Nat, i < 11 → zk_fact Q (nI t) (nI i) = upd (zc_fct X (zr_nk q) (nI (c - a))) 7 (nI b) i := by
        intro i hi
        unfold zk_fact
        rw [hasQ, if_pos ⟨by decide, nI_pos (by omega), nI_lt (b := 11) hi (by omega)⟩, z_mul11, nI_add, nI_clamp (by omega)]
        exact q1.2 i hi
      have f8 : zk_fact Q (nI t) 8 = nI (zq_nl T n a (c - a)).length := by
        have := factQ 8 (by decide)
        have e : upd (zc_fct X (zr_nk q) (nI (c - a))) 7 (nI b) 8 = X.1 1 - X.1 57 := rfl
        rw [e, x6, e57, pk_sub (by omega), Nat.add_sub_cancel_left] at this
        exact this
      have f9 : zk_fact Q (nI t) 9 = nI u := by
        have := factQ 9 (by decide)
        have e : upd (zc_fct X (zr_nk q) (nI (c - a))) 7 (nI b) 9 = X.1 57 := rfl
        rw [e, e57] at this
        exact this
      have f7 : zk_fact Q (nI t) 7 = nI b := factQ 7 (by decide)
      have byteQ : ∀ i : Nat, i < (zq_nl T n a (c - a)).length → zk_byteOf Q (nI t) (nI i) = M4.2.1 16 (u + i) &&& 255 := by
        intro i hi
        unfold zk_byteOf
        rw [f8, f9, if_pos ⟨nI_pos (by omega), nI_lt hi (by omega)⟩, nI_add]
        unfold zk_byteAt
        rw [z1Q, if_pos ⟨nI_pos (by omega), nI_lt (by omega) (by omega)⟩, nI_clamp (by omega), p0 i hi]
      have digQ : ∀ i : Nat, s0 ≤ i → i < (zq_nl T n a (c - a)).length → zk_digitOf (zk_byteOf Q (nI t) (nI i)) (nI b) = zr_worth (M4.2.1 16 (u + i)) := by
        intro i i1 i2
        obtain ⟨x, xb, xw⟩ := hint.2.2.2.2.2.2 i i1 i2
        have hb16 : b ≤ 16 := by have := hint.2.1; omega
        obtain ⟨ch, ch1, -, ch3⟩ := z_worth16 (show x < 16 by omega) xw
        obtain ⟨w1, w2, -, -⟩ := z_chars ch ch1
        rw [byteQ i i2, ch3, w1]
        rw [ch3] at xw
        unfold zk_digitOf
        rw [w2 x (by omega) xw, xw, if_pos (nI_lt xb (by omega))]
      have fdQ : (zk_fd Q (nI t)).toNatClampNeg = s0 := by
        unfold zk_fd
        obtain ⟨i1, i2, i3, i4, i5, i6, i7⟩ := hint
        rcases i3 with z | ⟨z, z'⟩
        · rw [if_neg, z]
          · rfl
          · intro y
            rcases Nat.lt_or_ge 1 (zq_nl T n a (c - a)).length with w | w
            · have hby := byteQ 1 w
              have : zk_byteOf Q (nI t) 1 = M4.2.1 16 (u + 1) := by
                obtain ⟨x, xb, xw⟩ := i7 1 (by omega) w
                obtain ⟨ch, ch1, -, ch3⟩ := z_worth16 (show x < 16 by omega) xw
                have hby : zk_byteOf Q (nI t) 1 = M4.2.1 16 (u + 1) &&& 255 := hby
                rw [hby, ch3]
                exact (z_chars ch ch1).1
              rw [this] at y
              exact (i6 z w).1 y
            · have : zk_byteOf Q (nI t) 1 = -1 := by
                unfold zk_byteOf
                rw [f8, if_neg]
                intro z
                have := z_lit (a := 1) (by omega) (by omega) z.2
                omega
              rw [this] at y
              exact absurd y (by decide)
        · rw [if_pos, z]
          · rfl
          · have hby : zk_byteOf Q (nI t) 1 = M4.2.1 16 (u + 1) &&& 255 := byteQ 1 (by omega)
            have g1 := (i5 z).1
            have hfit : fits .byte (.int (M4.2.1 16 (u + 1))) = true := by
              rw [p16 1 (by omega)]
              exact z_byte8 _
            obtain ⟨v, v1, v2⟩ := zq_byte hfit
            have key : ∀ v : Nat, v < 256 → 57 < zq_b v → 57 < zq_b v &&& 255 := by decide +kernel
            rw [hby, v2]
            rw [v2] at g1
            exact key v v1 g1
      obtain ⟨g1, g2, g3, g4⟩ := zm_value_at (M := M4) (Z := Q) (p := u + s0) (s := s0) (b := b) (show t < 16384 by omega) (by rw [o4 22 (by decide) (by decide)]; exact y3) v0 ((zq_nl T n a (c - a)).length - s0) (by omega) (fun i hi => by
        rw [digQ (s0 + i) (by omega) (by omega), Nat.add_assoc])
      refine main _ g1 g2 g3 (fun _ => ?_)
      rw [g4]
      unfold zk_lowBits
      rw [f7, f8, fdQ, nI_clamp (by omega)]
end
