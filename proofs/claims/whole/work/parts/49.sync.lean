/-! Tokens added: what both keep. -/
theorem zp_int_eq {f g : Nat → Int32} {q w s b : Nat} (h : zp_int f q w s b) (he : ∀ i : Nat, i < w → g (q + i) = f (q + i)) : zp_int g q w s b := by
  obtain ⟨h1, h2, h3, h4, h5, h6, h7⟩ := h
  refine ⟨h1, h2, h3, h4, fun z => ?_, fun z z2 => ?_, fun i a c => ?_⟩
  · rw [he 1 (by omega)]; exact h5 z
  · rw [he 1 z2]; exact h6 z z2
  · rw [he i c]; exact h7 i a c
def zq_kp (N X : zc_N) (M Y : zm_M) (t u t' u' : Nat) : Prop :=
  (X.1 71 = nI t' ∧ Y.1 3 = nI t' ∧ t ≤ t' ∧ t' ≤ 16384) ∧ (X.1 1 = nI u' ∧ Y.1 15 = nI u' ∧ u ≤ u' ∧ u' ≤ 60000) ∧ (∀ i : Nat, i < t * 11 → X.2.1 70 i = N.2.1 70 i) ∧ (∀ i : Nat, i < u → X.2.1 0 i = N.2.1 0 i) ∧ (∀ r : Nat, 4 ≤ r → r ≤ 13 → ∀ j : Nat, j < t → Y.2.1 r j = M.2.1 r j) ∧ (∀ i : Nat, i < u → Y.2.1 16 i = M.2.1 16 i) ∧ (∀ j : Nat, j < t → Y.2.2 j = M.2.2 j)
/-- t tokens, u bytes of the pool -/
def zq_K (N : zc_N) (M : zm_M) (t u : Nat) : Prop := N.1 71 = nI t ∧ M.1 3 = nI t ∧ (∀ j : Nat, j < t → zp_tok N M j) ∧ N.1 1 = nI u ∧ M.1 15 = nI u ∧ ∀ i : Nat, i < u → N.2.1 0 i = M.2.1 16 i
theorem zp_tok_keep {N X : zc_N} {M Y : zm_M} {t u t' u' k t0 : Nat} (hk : k < t) (hN : N.1 71 = nI t0) (h0 : t ≤ t0) (h01 : t0 ≤ 16384) (hu : N.1 1 = nI u) (K : zq_kp N X M Y t u t' u') (h : zp_tok N M k) : zp_tok X Y k := by
  obtain ⟨⟨a1, a2, a3, a4⟩, ⟨b1, b2, b3, b4⟩, c1, c2, c3, c4, c5⟩ := K
  obtain ⟨⟨f0, f1, f2, f3, f4, f5, f6, f7, f8, f9⟩, ⟨q, w, u0, q1, q2, q3, q4, q5, q6, q7⟩, r1, r2⟩ := h
  have hu0 : u0 = u := z_injC (by omega) (by omega) (q3.symm.trans hu)
  subst hu0
  have hfa : ∀ b : Int32, zk_fact X (nI k) b = zk_fact N (nI k) b := by
    intro b
    have e1 : zk_has X (nI k) = 1 := by unfold zk_has; rw [a1, if_neg (fun z => by rcases z with z | z; exact nI_pos (by omega) z; exact z (nI_lt (by omega) (by omega)))]
    have e2 : zk_has N (nI k) = 1 := by unfold zk_has; rw [hN, if_neg (fun z => by rcases z with z | z; exact nI_pos (by omega) z; exact z (nI_lt (by omega) (by omega)))]
    unfold zk_fact
    rw [e1, e2]
    by_cases hb : ¬ b < 0 ∧ b < 11
    · obtain ⟨j, hj, rfl⟩ := nI_of hb.1
      have hj2 : j < 11 := z_lit hj (by omega) hb.2
      rw [if_pos ⟨by decide, hb⟩, if_pos ⟨by decide, hb⟩, z_mul11, nI_add, nI_clamp (by omega)]
      exact c1 _ (by omega)
    · rw [if_neg (fun z => hb z.2), if_neg (fun z => hb z.2)]
  have hlen : zk_fact N (nI k) 8 = nI w := by
    have e2 : zk_has N (nI k) = 1 := by unfold zk_has; rw [hN, if_neg (fun z => by rcases z with z | z; exact nI_pos (by omega) z; exact z (nI_lt (by omega) (by omega)))]
    unfold zk_fact
    rw [e2, if_pos ⟨by decide, by decide, by decide⟩, z_mul11]
    show N.2.1 70 (nI (k * 11) + nI 8).toNatClampNeg = _
    rw [nI_add, nI_clamp (by omega), f8, q2]
  have hat : zk_fact N (nI k) 9 = nI q := by
    have e2 : zk_has N (nI k) = 1 := by unfold zk_has; rw [hN, if_neg (fun z => by rcases z with z | z; exact nI_pos (by omega) z; exact z (nI_lt (by omega) (by omega)))]
    unfold zk_fact
    rw [e2, if_pos ⟨by decide, by decide, by decide⟩, z_mul11]
    show N.2.1 70 (nI (k * 11) + nI 9).toNatClampNeg = _
    rw [nI_add, nI_clamp (by omega), f9, q1]
  have hby : ∀ i : Int32, zk_byteOf X (nI k) i = zk_byteOf N (nI k) i := by
    intro i
    unfold zk_byteOf
    rw [hfa, hfa, hlen, hat]
    by_cases hb : ¬ i < 0 ∧ i < nI w
    · rw [if_pos hb, if_pos hb]
      obtain ⟨j, hj, rfl⟩ := nI_of hb.1
      have hj2 : j < w := z_lit hj (by omega) hb.2
      unfold zk_byteAt
      rw [nI_add, b1, q3, if_pos ⟨nI_pos (by omega), nI_lt (by omega) (by omega)⟩, if_pos ⟨nI_pos (by omega), nI_lt (by omega) (by omega)⟩, nI_clamp (by omega), c2 _ (by omega)]
    · rw [if_neg hb, if_neg hb]
  have hl : ∀ (b : Int32) (m i : Nat) (v : Int64), zk_lows X (nI k) b m i v = zk_lows N (nI k) b m i v := by
    intro b m
    induction m with
    | zero => intro i v; rfl
    | succ m ih => intro i v; rw [zk_lows_s rfl, zk_lows_s rfl, ih, hby]
  have elow : zk_lowBits X (nI k) = zk_lowBits N (nI k) := by
    unfold zk_lowBits zk_fd
    rw [hfa, hfa, hby, hl]
  have g : ∀ r : Nat, 4 ≤ r → r ≤ 13 → Y.2.1 r k = M.2.1 r k := fun r x y => c3 r x y k hk
  refine ⟨⟨?_, ?_, ?_, ?_, ?_, ?_, ?_, ?_, ?_, ?_⟩, ⟨q, w, u', ?_, ?_, b1, by omega, b4, fun i hi => ?_, fun z => ?_⟩, fun z => ?_, fun z => ?_⟩
  · rw [c1 _ (by omega), f0, g 4 (by decide) (by decide)]
  · rw [c1 _ (by omega), f1, g 5 (by decide) (by decide)]
  · rw [c1 _ (by omega), f2, g 6 (by decide) (by decide)]
  · rw [c1 _ (by omega), f3, g 7 (by decide) (by decide)]
  · rw [c1 _ (by omega), f4, g 8 (by decide) (by decide)]
  · rw [c1 _ (by omega), f5, g 9 (by decide) (by decide)]
  · rw [c1 _ (by omega), f6, g 10 (by decide) (by decide)]
  · rw [c1 _ (by omega), f7, g 11 (by decide) (by decide)]
  · rw [c1 _ (by omega), f8, g 13 (by decide) (by decide)]
  · rw [c1 _ (by omega), f9, g 12 (by decide) (by decide)]
  · rw [g 12 (by decide) (by decide), q1]
  · rw [g 13 (by decide) (by decide), q2]
  · rw [c2 _ (by omega), c4 _ (by omega), q6 i hi]
  · rw [g 4 (by decide) (by decide)] at z
    obtain ⟨s, b, e1, e2⟩ := q7 z
    exact ⟨s, b, by rw [g 11 (by decide) (by decide), e1], zp_int_eq e2 fun i hi => c4 _ (by omega)⟩
  · rw [g 4 (by decide) (by decide)] at z
    rw [c5 k hk, c1 _ (by omega), r1 z]
  · rw [g 4 (by decide) (by decide)] at z
    rw [c5 k hk, elow, r2 z]
theorem zq_K_add {N X : zc_N} {M Y : zm_M} {t u t' u' : Nat} (h : zq_K N M t u) (K : zq_kp N X M Y t u t' u') (ht : ∀ j : Nat, t ≤ j → j < t' → zp_tok X Y j) (hu : ∀ i : Nat, u ≤ i → i < u' → X.2.1 0 i = Y.2.1 16 i) : zq_K X Y t' u' := by
  have K9 := K
  obtain ⟨⟨a1, a2, a3, a4⟩, ⟨b1, b2, b3, b4⟩, c1, c2, c3, c4, c5⟩ := K9
  obtain ⟨h1, h2, h3, h4, h5, h6⟩ := h
  refine ⟨a1, a2, fun j hj => ?_, b1, b2, fun i hi => ?_⟩
  · rcases Nat.lt_or_ge j t with q | q
    · exact zp_tok_keep q h1 (Nat.le_refl _) (by omega) h4 K (h3 j q)
    · exact ht j q hj
  · rcases Nat.lt_or_ge i u with q | q
    · rw [c2 i q, c4 i q, h6 i q]
    · exact hu i q hi
/-- a token of the reference -/
theorem zm_token_at {M : zm_M} {t : Nat} (h : M.1 3 = nI t) (ht : t < 16384) (k n q : Int32) : (zm_token M k n q).1 = upd M.1 3 (nI (t + 1)) ∧ ((zm_token M k n q).2.1 4 = upd (M.2.1 4) t k ∧ (zm_token M k n q).2.1 5 = upd (M.2.1 5) t (M.1 23) ∧ (zm_token M k n q).2.1 6 = upd (M.2.1 6) t (M.1 24) ∧ (zm_token M k n q).2.1 7 = upd (M.2.1 7) t (M.1 25) ∧ (zm_token M k n q).2.1 8 = upd (M.2.1 8) t n ∧ (zm_token M k n q).2.1 9 = upd (M.2.1 9) t (vp_nar .boolean q) ∧ (zm_token M k n q).2.1 10 = upd (M.2.1 10) t (-1) ∧ (zm_token M k n q).2.1 11 = upd (M.2.1 11) t 0 ∧ (zm_token M k n q).2.1 12 = upd (M.2.1 12) t (M.1 15) ∧ (zm_token M k n q).2.1 13 = upd (M.2.1 13) t 0) ∧ (∀ r : Nat, r < 4 ∨ 13 < r → (zm_token M k n q).2.1 r = M.2.1 r) ∧ (zm_token M k n q).2.2 = vp_updL M.2.2 t 0 := by
  have hf : M.1 3 < 16384 := by rw [h]; exact nI_lt ht (by decide)
  have e1 : zr_room M = 1 := by unfold zr_room; rw [if_pos hf]
  have e2 : ∀ p : Int32, zm_room M p = M := fun p => by unfold zm_room; rw [if_pos hf]
  have e3 : (M.1 3).toNatClampNeg = t := by rw [h, nI_clamp (by omega)]
  unfold zm_token
  rw [e2, e1]
  refine ⟨?_, ⟨?_, ?_, ?_, ?_, ?_, ?_, ?_, ?_, ?_, ?_⟩, fun r hr => ?_, ?_⟩
  · show upd M.1 3 (M.1 3 + 1) = _
    rw [h, nI_1]
  all_goals try (rw [← e3]; rfl)
  have hr2 : r ≠ 4 ∧ r ≠ 5 ∧ r ≠ 6 ∧ r ≠ 7 ∧ r ≠ 8 ∧ r ≠ 9 ∧ r ≠ 10 ∧ r ≠ 11 ∧ r ≠ 12 ∧ r ≠ 13 := by omega
  obtain ⟨r4, r5, r6, r7, r8, r9, r10, r11, r12, r13⟩ := hr2
  show (if r = 13 then _ else if r = 12 then _ else if r = 11 then _ else if r = 10 then _ else if r = 9 then _ else if r = 8 then _ else if r = 7 then _ else if r = 6 then _ else if r = 5 then _ else if r = 4 then _ else M.2.1 r) = M.2.1 r
  rw [if_neg r13, if_neg r12, if_neg r11, if_neg r10, if_neg r9, if_neg r8, if_neg r7, if_neg r6, if_neg r5, if_neg r4]
theorem zm_token_row {M : zm_M} {t : Nat} (h : M.1 3 = nI t) (ht : t < 16384) (k n q : Int32) (r j : Nat) (hr : 4 ≤ r) (hr2 : r ≤ 13) (hj : j < t) : (zm_token M k n q).2.1 r j = M.2.1 r j := by
  obtain ⟨-, ⟨a4, a5, a6, a7, a8, a9, a10, a11, a12, a13⟩, -, -⟩ := zm_token_at h ht k n q
  have hc : r = 4 ∨ r = 5 ∨ r = 6 ∨ r = 7 ∨ r = 8 ∨ r = 9 ∨ r = 10 ∨ r = 11 ∨ r = 12 ∨ r = 13 := by omega
  rcases hc with rfl | rfl | rfl | rfl | rfl | rfl | rfl | rfl | rfl | rfl
  · rw [a4, zq_upd, if_neg (by omega)]
  · rw [a5, zq_upd, if_neg (by omega)]
  · rw [a6, zq_upd, if_neg (by omega)]
  · rw [a7, zq_upd, if_neg (by omega)]
  · rw [a8, zq_upd, if_neg (by omega)]
  · rw [a9, zq_upd, if_neg (by omega)]
  · rw [a10, zq_upd, if_neg (by omega)]
  · rw [a11, zq_upd, if_neg (by omega)]
  · rw [a12, zq_upd, if_neg (by omega)]
  · rw [a13, zq_upd, if_neg (by omega)]
theorem zp_tok_mk {X : zc_N} {Y : zm_M} {t q w u : Nat} {f r : Nat → Int32} (hr : zc_row X t r f) (h4 : Y.2.1 4 t = f 0) (h5 : Y.2.1 5 t = f 1) (h6 : Y.2.1 6 t = f 2) (h7 : Y.2.1 7 t = f 3) (h8 : Y.2.1 8 t = f 4) (h9 : f 5 = if Y.2.1 9 t = 0 then 0 else 1) (h10 : Y.2.1 10 t = f 6) (h11 : Y.2.1 11 t = f 7) (h13 : f 8 = nI w) (h13' : Y.2.1 13 t = nI w) (h12 : f 9 = nI q) (h12' : Y.2.1 12 t = nI q) (hu : X.1 1 = nI u) (hq : q + w ≤ u) (hu2 : u ≤ 60000) (hb : ∀ i : Nat, i < w → X.2.1 0 (q + i) = Y.2.1 16 (q + i)) (hint : f 0 = 2 → (∃ s b : Nat, Y.2.1 11 t = nI b ∧ zp_int (Y.2.1 16) q w s b) ∧ Y.2.2 t = zk_lowBits X (nI t)) (hrune : f 0 = 4 → Y.2.2 t = (f 10).toInt64) : zp_tok X Y t := by
  have hf := hr.2
  refine ⟨⟨?_, ?_, ?_, ?_, ?_, ?_, ?_, ?_, ?_, ?_⟩, ⟨q, w, u, h12', h13', hu, hq, hu2, hb, fun z => (hint (h4.symm.trans z)).1⟩, fun z => ?_, fun z => (hint (h4.symm.trans z)).2⟩
  · exact (hf 0 (by decide)).trans h4.symm
  · exact (hf 1 (by decide)).trans h5.symm
  · exact (hf 2 (by decide)).trans h6.symm
  · exact (hf 3 (by decide)).trans h7.symm
  · exact (hf 4 (by decide)).trans h8.symm
  · exact (hf 5 (by decide)).trans h9
  · exact (hf 6 (by decide)).trans h10.symm
  · exact (hf 7 (by decide)).trans h11.symm
  · exact (hf 8 (by decide)).trans (h13.trans h13'.symm)
  · exact (hf 9 (by decide)).trans (h12.trans h12'.symm)
  · rw [hf 10 (by decide)]
    exact hrune (h4.symm.trans z)
theorem zk_ends_asks (k : Int32) : zk_ends k = zr_asks k := by
  have h : (k = 1 ∨ k = 2 ∨ k = 3 ∨ k = 4 ∨ k = 5) ↔ (¬ k < 1 ∧ ¬ 5 < k) := by
    constructor
    · rintro (rfl | rfl | rfl | rfl | rfl) <;> decide
    · rintro ⟨h1, h2⟩
      have hp : ¬ k < 0 := fun z => h1 (Int32.lt_trans z (by decide))
      obtain ⟨j, hj, rfl⟩ := nI_of hp
      have j1 : ¬ j < 1 := fun z => h1 (nI_lt z (by decide))
      have j2 : ¬ 5 < j := fun z => h2 (nI_lt z hj)
      have hc : j = 1 ∨ j = 2 ∨ j = 3 ∨ j = 4 ∨ j = 5 := by omega
      rcases hc with rfl | rfl | rfl | rfl | rfl <;> decide
  unfold zk_ends zr_asks
  simp only [← h, or_assoc]
