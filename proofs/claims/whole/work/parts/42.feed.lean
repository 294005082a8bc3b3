/-- a feed's value by its number -/
def zp_pick (a b c d e : Int32) (g : Nat) : Int32 := if g = 0 then a else if g = 1 then b else if g = 2 then c else if g = 3 then d else e
theorem zc_five {X : zc_N} {n : Nat} (hn : X.1 61 = nI n) (hL : n + 20 ≤ X.2.2.2 60) (hl : X.2.2.2 60 ≤ 200000) (a b c d e : Int32) : ∃ Y : zc_N, Y = zc_four (zc_four (zc_four (zc_four (zc_four X a) b) c) d) e ∧ Y.1 61 = nI (n + 20) ∧ (∀ k : Nat, k ≠ 61 → Y.1 k = X.1 k) ∧ (∀ q : Nat, q ≠ 60 → Y.2.1 q = X.2.1 q) ∧ Y.2.2 = X.2.2 ∧ (∀ i : Nat, i < n → Y.2.1 60 i = X.2.1 60 i) ∧ (∀ g : Nat, g < 5 → ∀ i : Nat, i < 4 → Y.2.1 60 (n + (4 * g + i)) = zk_byte (zp_pick a b c d e g) (nI (24 - 8 * i))) := by
  obtain ⟨a1, a2, a3, a4, a5, a6⟩ := zc_four_at hn (by omega) hl a
  have la : (zc_four X a).2.2.2 60 = X.2.2.2 60 := by rw [a4]
  obtain ⟨b1, b2, b3, b4, b5, b6⟩ := zc_four_at a1 (by omega) (by omega) b
  have lb : (zc_four (zc_four X a) b).2.2.2 60 = X.2.2.2 60 := by rw [b4, la]
  obtain ⟨c1, c2, c3, c4, c5, c6⟩ := zc_four_at b1 (by omega) (by omega) c
  have lc : (zc_four (zc_four (zc_four X a) b) c).2.2.2 60 = X.2.2.2 60 := by rw [c4, lb]
  obtain ⟨d1, d2, d3, d4, d5, d6⟩ := zc_four_at c1 (by omega) (by omega) d
  have ld : (zc_four (zc_four (zc_four (zc_four X a) b) c) d).2.2.2 60 = X.2.2.2 60 := by rw [d4, lc]
  obtain ⟨e1, e2, e3, e4, e5, e6⟩ := zc_four_at d1 (by omega) (by omega) e
  refine ⟨_, rfl, e1, fun k hk => ?_, fun q hq => ?_, ?_, fun i hi => ?_, fun g hg i hi => ?_⟩
  · rw [e2 k hk, d2 k hk, c2 k hk, b2 k hk, a2 k hk]
  · rw [e3 q hq, d3 q hq, c3 q hq, b3 q hq, a3 q hq]
  · rw [e4, d4, c4, b4, a4]
  · rw [e5 i (by omega), d5 i (by omega), c5 i (by omega), b5 i (by omega), a5 i hi]
  · have hc : g = 0 ∨ g = 1 ∨ g = 2 ∨ g = 3 ∨ g = 4 := by omega
    rcases hc with rfl | rfl | rfl | rfl | rfl
    · rw [e5 _ (by omega), d5 _ (by omega), c5 _ (by omega), b5 _ (by omega), show n + (4 * 0 + i) = n + i by omega, a6 i hi]
      rfl
    · rw [e5 _ (by omega), d5 _ (by omega), c5 _ (by omega), show n + (4 * 1 + i) = n + 4 + i by omega, b6 i hi]
      rfl
    · rw [e5 _ (by omega), d5 _ (by omega), show n + (4 * 2 + i) = n + 4 + 4 + i by omega, c6 i hi]
      rfl
    · rw [e5 _ (by omega), show n + (4 * 3 + i) = n + 4 + 4 + 4 + i by omega, d6 i hi]
      rfl
    · rw [show n + (4 * 4 + i) = n + 4 + 4 + 4 + 4 + i by omega, e6 i hi]
      rfl
theorem zp_feed {N : zc_N} {M : zm_M} {n t k : Nat} (h : zp_R N M n t k) (h6 : n + 20 ≤ 60000) (a b c d e : Int32) : zk_feed N = zr_feed M ∧ zp_R (zc_feed N a b c d e) (zm_feed M a b c d e) (n + 20) t k := by
  obtain ⟨hI, ⟨n1, n2, n3⟩, ⟨t1, t2, t3, t4⟩, k1, k2, k3, k4⟩ := id h
  obtain ⟨r1, r2, r3, r4, r5, r6⟩ := zc_room hI n1 h6
  have hi2 := zi_makeRoom hI 20
  have hl2 := zc_len hi2 60 (by decide)
  have g6 : ¬ 65536 < M.1 2 + 20 := by
    rw [n2, show nI n + 20 = nI (n + 20) from nI_add n 20]
    exact nI_nlt (show n + 20 ≤ 65536 by omega) (by decide)
  have hr0 : ¬ zk_makeRoom N 20 = 0 := by rw [r1]; decide
  have hI5 := zi_feed hI a b c d e
  refine ⟨?_, ?_⟩
  · unfold zk_feed zr_feed
    rw [if_neg hr0, if_neg g6]
  · have hf : zc_feed N a b c d e = zc_four (zc_four (zc_four (zc_four (zc_four (zc_makeRoom N 20) a) b) c) d) e := by
      unfold zc_feed
      rw [if_neg hr0]
    have hm : zm_feed M a b c d e = zm_feedN (zm_0 M) a b c d e 20 := by
      unfold zm_feed
      rw [if_neg g6]
    obtain ⟨Y, y0, y1, y2, y3, y4, y5, y6⟩ := zc_five (X := zc_makeRoom N 20) (by rw [r2]; exact n1) r6 hl2.2 a b c d e
    obtain ⟨m1, m2, m3, m4, m5, m6⟩ := zm_feed_at (M := zm_0 M) (n := n) n2 h6 a b c d e 20 (Nat.le_refl _)
    rw [← y0] at hf
    rw [hf] at hI5 ⊢
    rw [hm]
    have e71 : Y.1 71 = N.1 71 := by rw [y2 71 (by decide), r2]
    have e24 : Y.1 24 = N.1 24 := by rw [y2 24 (by decide), r2]
    have e1 : Y.1 1 = N.1 1 := by rw [y2 1 (by decide), r2]
    have f70 : Y.2.1 70 = N.2.1 70 := by rw [y3 70 (by decide), r3 70 (by decide)]
    have f0 : Y.2.1 0 = N.2.1 0 := by rw [y3 0 (by decide), r3 0 (by decide)]
    have f23 : Y.2.1 23 = N.2.1 23 := by rw [y3 23 (by decide), r3 23 (by decide)]
    refine ⟨hI5, ⟨y1, m1, fun i hi => ?_⟩, ⟨e71.trans t1, (m2 3 (by decide)).trans t2, t3, fun j hj => zp_tok_eq (t4 j hj) f70 f0 e71 e1 (fun q hq _ => m3 q hq) m4⟩, e24.trans k1, (m2 17 (by decide)).trans k2, k3, fun j hj => ?_⟩
    · rcases Nat.lt_or_ge i n with q | q
      · rw [y5 i q, r5 i q, m5 i q]
        exact n3 i q
      · obtain ⟨j, rfl⟩ : ∃ j, i = n + (4 * (j / 4) + j % 4) := ⟨i - n, by omega⟩
        have hj : 4 * (j / 4) + j % 4 < 20 := by omega
        rw [y6 (j / 4) (by omega) (j % 4) (by omega), m6 (4 * (j / 4) + j % 4) hj, zp_fb_eq a b c d e (j / 4) (by omega) (j % 4) (by omega)]
        rfl
    · rw [f23, m3 18 (by decide)]
      exact k4 j hj
theorem zp_end {N : zc_N} {M : zm_M} {n t k : Nat} (h : zp_R N M n t k) (hn : n ≤ 60000) (x : Int32) : zk_cutTo N x = zr_end M x ∧ ∃ n' : Nat, n' ≤ n ∧ zp_R (zc_cutTo N x) (zm_end M x) n' t k := by
  obtain ⟨hI, ⟨n1, n2, n3⟩, ⟨t1, t2, t3, t4⟩, k1, k2, k3, k4⟩ := id h
  have hI2 := zi_cutTo hI x
  unfold zc_cutTo at hI2
  unfold zk_cutTo zr_end zc_cutTo zm_end
  rw [n1] at hI2
  rw [n1, n2]
  by_cases hx : x < 0 ∨ nI n < x
  · simp only [if_pos hx]
    exact ⟨trivial, n, Nat.le_refl _, hI, ⟨n1, n2, n3⟩, ⟨t1, t2, t3, fun j hj => zp_tok_eq (t4 j hj) rfl rfl rfl rfl (fun _ _ _ => rfl) rfl⟩, k1, k2, k3, k4⟩
  · rw [if_neg hx] at hI2
    simp only [if_neg hx]
    have h0 : ¬ x < 0 := fun z => hx (Or.inl z)
    obtain ⟨j, hj, rfl⟩ := nI_of h0
    have hjn : j ≤ n := by
      rcases Nat.lt_or_ge n j with q | q
      · exact absurd (Or.inr (nI_lt q hj)) hx
      · exact q
    exact ⟨trivial, j, hjn, hI2, ⟨rfl, rfl, fun i hi => n3 i (by omega)⟩, ⟨t1, t2, t3, fun j hj => zp_tok_eq (t4 j hj) rfl rfl rfl rfl (fun _ _ _ => rfl) rfl⟩, k1, k2, k3, k4⟩
theorem zp_0 {N : zc_N} {M : zm_M} {n t k : Nat} (h : zp_R N M n t k) (v : Int32) : zp_R N (zm_s M 0 v) n t k := by
  obtain ⟨hI, ⟨n1, n2, n3⟩, ⟨t1, t2, t3, t4⟩, k1, k2, k3, k4⟩ := h
  exact ⟨hI, ⟨n1, n2, n3⟩, ⟨t1, t2, t3, fun j hj => zp_tok_eq (t4 j hj) rfl rfl rfl rfl (fun _ _ _ => rfl) rfl⟩, k1, k2, k3, k4⟩
