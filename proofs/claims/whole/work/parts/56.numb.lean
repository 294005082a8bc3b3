/-! A name's number given. -/
theorem zc_grow3_at {N : zc_N} (hI : zc_I N) {k : Nat} (hk : N.1 24 = nI k) (hk9 : k ≤ 16384) : (zc_grow3 N).1 = N.1 ∧ (∀ r : Nat, r ≠ 21 → r ≠ 22 → r ≠ 23 → (zc_grow3 N).2.1 r = N.2.1 r) ∧ (∀ r : Nat, r = 21 ∨ r = 22 ∨ r = 23 → ∀ j : Nat, j < k → (zc_grow3 N).2.1 r j = N.2.1 r j) ∧ (∀ r : Nat, r ≠ 21 → r ≠ 22 → r ≠ 23 → (zc_grow3 N).2.2.2 r = N.2.2.2 r) ∧ ¬ zk_noroom (zc_grow3 N) := by
  have hl := zc_len hI 23 (by decide)
  obtain ⟨d, x1, x2, x3, x4⟩ := hI.1.2.2.2
  have hkl : k ≤ N.2.2.2 23 := by
    obtain ⟨k', t', e1, -, -, e4, e5⟩ := hI.2.2.2.2.1
    have : k' = k := z_injC (by omega) (by omega) (e1.symm.trans hk)
    omega
  unfold zc_grow3
  by_cases c : N.1 24 < nI (N.2.2.2 23)
  · rw [if_pos c]
    refine ⟨rfl, fun _ _ _ _ => rfl, fun _ _ _ _ => rfl, fun _ _ _ _ => rfl, ?_⟩
    unfold zk_noroom
    rw [x2, x3, ← x4]
    rintro (z | z | z) <;> exact z c
  · rw [if_neg c]
    refine ⟨rfl, fun r a b c => ?_, fun r hr j hj => ?_, fun r a b c => ?_, ?_⟩
    · show (if r = 23 then _ else if r = 22 then _ else if r = 21 then _ else N.2.1 r) = _
      rw [if_neg c, if_neg b, if_neg a]
    · rcases hr with rfl | rfl | rfl
      · show (if j < N.2.2.2 21 then N.2.1 21 j else 0) = _
        rw [if_pos (by omega)]
      · show (if j < N.2.2.2 22 then N.2.1 22 j else 0) = _
        rw [if_pos (by omega)]
      · show (if j < N.2.2.2 23 then N.2.1 23 j else 0) = _
        rw [if_pos (by omega)]
    · show (if r = 23 then _ else if r = 22 then _ else if r = 21 then _ else N.2.2.2 r) = _
      rw [if_neg c, if_neg b, if_neg a]
    · have hlt : N.1 24 < nI (2 * N.2.2.2 23) := by rw [hk]; exact nI_lt (by omega) (by omega)
      rintro (z | z | z) <;> exact z hlt
theorem zc_addN_at {N : zc_N} (hI : zc_I N) {k : Nat} (hk : N.1 24 = nI k) (hk9 : k ≤ 16384) (tt hs : Int32) : (zc_addN N tt hs).1 24 = nI (k + 1) ∧ (∀ j : Nat, j ≠ 24 → (zc_addN N tt hs).1 j = N.1 j) ∧ (∀ r : Nat, r ≠ 20 → r ≠ 21 → r ≠ 22 → r ≠ 23 → (zc_addN N tt hs).2.1 r = N.2.1 r) ∧ (∀ j : Nat, j < k → (zc_addN N tt hs).2.1 23 j = N.2.1 23 j ∧ (zc_addN N tt hs).2.1 22 j = N.2.1 22 j ∧ (zc_addN N tt hs).2.1 21 j = N.2.1 21 j) ∧ ((zc_addN N tt hs).2.1 23 k = tt ∧ (zc_addN N tt hs).2.1 22 k = hs ∧ (zc_addN N tt hs).2.1 21 k = N.2.1 20 (hs &&& 511).toNatClampNeg) ∧ (zc_addN N tt hs).2.1 20 = upd (N.2.1 20) (hs &&& 511).toNatClampNeg (nI k) ∧ (zc_addN N tt hs).2.2.2 70 = N.2.2.2 70 ∧ zk_addN N = nI k := by
  obtain ⟨g1, g2, g3, g4, g5⟩ := zc_grow3_at hI hk hk9
  have e0 : zc_addN N tt hs = zc_named (zc_grow3 N) tt hs := by unfold zc_addN; rw [if_neg g5]
  have e1 : zk_addN N = nI k := by unfold zk_addN; rw [if_neg g5, hk, nI_1, nI_pred]
  rw [e0]
  generalize zc_grow3 N = G at g1 g2 g3 g4
  have h24 : G.1 24 = nI k := by rw [g1]; exact hk
  have ec : (G.1 24).toNatClampNeg = k := by rw [h24, nI_clamp (by omega)]
  unfold zc_named
  refine ⟨?_, fun j hj => ?_, fun r a b c d => ?_, fun j hj => ⟨?_, ?_, ?_⟩, ⟨?_, ?_, ?_⟩, ?_, g4 70 (by decide) (by decide) (by decide), e1⟩
  · show G.1 24 + 1 = _
    rw [h24, nI_1]
  · show upd G.1 24 _ j = _
    rw [zq_upd, if_neg hj, g1]
  · show (if r = 20 then _ else if r = 21 then _ else if r = 22 then _ else if r = 23 then _ else G.2.1 r) = _
    rw [if_neg a, if_neg b, if_neg c, if_neg d]
    exact g2 r b c d
  · show upd (G.2.1 23) (G.1 24).toNatClampNeg tt j = _
    rw [ec, zq_upd, if_neg (by omega)]
    exact g3 23 (by simp) j hj
  · show upd (G.2.1 22) (G.1 24).toNatClampNeg hs j = _
    rw [ec, zq_upd, if_neg (by omega)]
    exact g3 22 (by simp) j hj
  · show upd (G.2.1 21) (G.1 24).toNatClampNeg (G.2.1 20 (hs &&& 511).toNatClampNeg) j = _
    rw [ec, zq_upd, if_neg (by omega)]
    exact g3 21 (by simp) j hj
  · show upd (G.2.1 23) (G.1 24).toNatClampNeg tt k = _
    rw [ec, zq_upd, if_pos rfl]
  · show upd (G.2.1 22) (G.1 24).toNatClampNeg hs k = _
    rw [ec, zq_upd, if_pos rfl]
  · show upd (G.2.1 21) (G.1 24).toNatClampNeg (G.2.1 20 (hs &&& 511).toNatClampNeg) k = _
    rw [ec, zq_upd, if_pos rfl, g2 20 (by decide) (by decide) (by decide)]
  · show upd (G.2.1 20) (hs &&& 511).toNatClampNeg (G.1 24) = _
    rw [h24, g2 20 (by decide) (by decide) (by decide)]
/-- the last token's number set by both -/
theorem zq_set6 {Z X : zc_N} {V Y : zm_M} {t u : Nat} {x : Int32} (h : zq_K Z V (t + 1) u) (ht : t < 16384) (hu : u ≤ 60000) (hk : V.2.1 4 t = 1) (x71 : X.1 71 = Z.1 71) (x1 : X.1 1 = Z.1 1) (x0 : X.2.1 0 = Z.2.1 0) (xr : zc_row X t (Z.2.1 70) (upd (fun w => Z.2.1 70 (t * 11 + w)) 6 x)) (y3 : Y.1 3 = V.1 3) (y15 : Y.1 15 = V.1 15) (yr : ∀ r : Nat, 4 ≤ r → r ≤ 13 → r ≠ 10 → Y.2.1 r = V.2.1 r) (y10 : Y.2.1 10 = upd (V.2.1 10) t x) (y16 : Y.2.1 16 = V.2.1 16) (y2 : Y.2.2 = V.2.2) : zq_K X Y (t + 1) u := by
  obtain ⟨h1, h2, h3, h4, h5, h6⟩ := h
  refine ⟨x71.trans h1, y3.trans h2, fun j hj => ?_, x1.trans h4, y15.trans h5, fun i hi => by rw [x0, y16]; exact h6 i hi⟩
  rcases Nat.lt_or_ge j t with q | q
  · refine zp_tok_keep (t := t) (t' := t + 1) (u' := u) q h1 (by omega) (by omega) h4 ⟨⟨x71.trans h1, y3.trans h2, by omega, by omega⟩, ⟨x1.trans h4, y15.trans h5, Nat.le_refl _, hu⟩, xr.1, fun i _ => by rw [x0], fun r a b i hi => ?_, fun i _ => by rw [y16], fun i _ => by rw [y2]⟩ (h3 j hj)
    by_cases c : r = 10
    · subst c
      rw [y10, zq_upd, if_neg (by omega)]
    · rw [yr r a b c]
  · have e : j = t := by omega
    subst e
    obtain ⟨⟨f0, f1, f2, f3, f4, f5, f6, f7, f8, f9⟩, ⟨q, w, u0, q1, q2, q3, q4, q5, q6, q7⟩, r1, r2⟩ := h3 j hj
    have g := xr.2
    refine ⟨⟨?_, ?_, ?_, ?_, ?_, ?_, ?_, ?_, ?_, ?_⟩, ⟨q, w, u0, ?_, ?_, x1.trans q3, q4, q5, fun i hi => by rw [x0, y16]; exact q6 i hi, fun z => ?_⟩, fun z => ?_, fun z => ?_⟩
    · exact (g 0 (by decide)).trans (f0.trans (by rw [yr 4 (by decide) (by decide) (by decide)]))
    · exact (g 1 (by decide)).trans (f1.trans (by rw [yr 5 (by decide) (by decide) (by decide)]))
    · exact (g 2 (by decide)).trans (f2.trans (by rw [yr 6 (by decide) (by decide) (by decide)]))
    · exact (g 3 (by decide)).trans (f3.trans (by rw [yr 7 (by decide) (by decide) (by decide)]))
    · exact (g 4 (by decide)).trans (f4.trans (by rw [yr 8 (by decide) (by decide) (by decide)]))
    · exact (g 5 (by decide)).trans (f5.trans (by rw [yr 9 (by decide) (by decide) (by decide)]))
    · refine (g 6 (by decide)).trans ?_
      rw [y10, zq_upd, if_pos rfl, zq_upd, if_pos rfl]
    · exact (g 7 (by decide)).trans (f7.trans (by rw [yr 11 (by decide) (by decide) (by decide)]))
    · exact (g 8 (by decide)).trans (f8.trans (by rw [yr 13 (by decide) (by decide) (by decide)]))
    · exact (g 9 (by decide)).trans (f9.trans (by rw [yr 12 (by decide) (by decide) (by decide)]))
    · rw [yr 12 (by decide) (by decide) (by decide)]; exact q1
    · rw [yr 13 (by decide) (by decide) (by decide)]; exact q2
    · rw [yr 4 (by decide) (by decide) (by decide), hk] at z
      exact absurd z (by decide)
    · rw [yr 4 (by decide) (by decide) (by decide), hk] at z
      exact absurd z (by decide)
    · rw [yr 4 (by decide) (by decide) (by decide), hk] at z
      exact absurd z (by decide)
theorem zq_lp_v (P : Nat → Prop) [DecidablePred P] : ∀ k : Nat, k < 2 ^ 31 → zq_lp P k < 0 ∨ ∃ j : Nat, j < k ∧ zq_lp P k = nI j := by
  intro k
  induction k with
  | zero => intro _; exact Or.inl (show (-1 : Int32) < 0 by decide)
  | succ k ih =>
    intro hk
    show (if P k then nI k else zq_lp P k) < 0 ∨ ∃ j : Nat, j < k + 1 ∧ (if P k then nI k else zq_lp P k) = nI j
    by_cases c : P k
    · rw [if_pos c]; exact Or.inr ⟨k, by omega, rfl⟩
    · rw [if_neg c]
      rcases ih (by omega) with z | ⟨j, z1, z2⟩
      · exact Or.inl z
      · exact Or.inr ⟨j, by omega, z2⟩
theorem zr_hash_at {T : Nat → Int32} {n : Nat} (hT : zq_T T n) {V : zm_M} {a w b : Nat} (hm : zq_mt T n V b) (h27 : V.1 27 = nI (a + w)) (h23 : V.1 23 = nI a) (hw : 1 ≤ w) (hn9 : a + w ≤ n) : zr_hash V = zq_h2 T a w ∧ zq_b2 T a w < 4096 := by
  have hn := hT.1
  have hx : ∀ i : Nat, i < n → zr_byteAt V (nI i) = T i &&& 255 := fun i hi => by rw [zr_byteAt_at hT hm hi]; unfold zq_x; rw [if_pos hi]
  have e1 : nI (a + w) - 1 = nI (a + (w - 1)) := by
    rw [show a + w = (a + (w - 1)) + 1 from by omega, nI_pred]
  have e2 : (nI a + nI (a + w)) / 2 = nI (a + w / 2) := by
    rw [nI_add]
    show nI (a + (a + w)) / nI 2 = _
    rw [pk_div (by omega) (by decide) (by decide), show (a + (a + w)) / 2 = a + w / 2 from by omega]
  have eh : zr_hash V = zq_h2 T a w := by
    unfold zr_hash zq_h2
    dsimp only
    rw [h27, h23, e1, e2, hx a (by omega), hx _ (by omega), hx _ (by omega)]
    have e3 : ∀ y : Int32, y + nI (a + w) - nI a = y + nI w := by
      intro y
      rw [← nI_add, Int32.add_comm (nI a) (nI w), ← Int32.add_assoc, Int32.add_sub_cancel]
    rw [e3]
  refine ⟨eh, ?_⟩
  have := zr_hash_in h27 h23 (by omega) (by omega)
  rw [eh] at this
  unfold zq_b2
  rcases Nat.lt_or_ge (zq_h2 T a w).toNatClampNeg 4096 with q | q
  · exact q
  · exact absurd (Or.inr q) this
