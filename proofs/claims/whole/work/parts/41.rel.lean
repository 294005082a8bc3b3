/-! The class and the reference between two calls: what they have in common. -/
/-- an INT's digits in the row pl: w bytes from q on, s of them ahead of the digits, base b -/
def zp_int (pl : Nat → Int32) (q w s b : Nat) : Prop := s < w ∧ (b = 2 ∨ b = 8 ∨ b = 10 ∨ b = 16) ∧ (s = 0 ∨ (s = 2 ∧ ¬ b = 10)) ∧ (b = 2 ∨ b = 16 → s = 2) ∧ (s = 2 → 57 < pl (q + 1) ∧ 9 < zr_worth (pl (q + 1))) ∧ (s = 0 → 1 < w → ¬ 57 < pl (q + 1) ∧ ¬ 9 < zr_worth (pl (q + 1))) ∧ (∀ i : Nat, s ≤ i → i < w → ∃ x : Nat, x < b ∧ zr_worth (pl (q + i)) = nI x)
def zp_tok (N : zc_N) (M : zm_M) (k : Nat) : Prop :=
  (N.2.1 70 (k * 11) = M.2.1 4 k ∧ N.2.1 70 (k * 11 + 1) = M.2.1 5 k ∧ N.2.1 70 (k * 11 + 2) = M.2.1 6 k ∧ N.2.1 70 (k * 11 + 3) = M.2.1 7 k ∧ N.2.1 70 (k * 11 + 4) = M.2.1 8 k ∧ N.2.1 70 (k * 11 + 5) = (if M.2.1 9 k = 0 then 0 else 1) ∧ N.2.1 70 (k * 11 + 6) = M.2.1 10 k ∧ N.2.1 70 (k * 11 + 7) = M.2.1 11 k ∧ N.2.1 70 (k * 11 + 8) = M.2.1 13 k ∧ N.2.1 70 (k * 11 + 9) = M.2.1 12 k) ∧
  (∃ q w u : Nat, M.2.1 12 k = nI q ∧ M.2.1 13 k = nI w ∧ N.1 1 = nI u ∧ q + w ≤ u ∧ u ≤ 60000 ∧ (∀ i : Nat, i < w → N.2.1 0 (q + i) = M.2.1 16 (q + i)) ∧ (M.2.1 4 k = 2 → ∃ s b : Nat, M.2.1 11 k = nI b ∧ zp_int (M.2.1 16) q w s b)) ∧
  (M.2.1 4 k = 4 → M.2.2 k = (N.2.1 70 (k * 11 + 10)).toInt64) ∧ (M.2.1 4 k = 2 → M.2.2 k = zk_lowBits N (nI k))
/-- n bytes fed, t tokens, k names -/
def zp_R (N : zc_N) (M : zm_M) (n t k : Nat) : Prop := zc_I N ∧ (N.1 61 = nI n ∧ M.1 2 = nI n ∧ ∀ i : Nat, i < n → N.2.1 60 i = M.2.1 1 i) ∧ (N.1 71 = nI t ∧ M.1 3 = nI t ∧ t ≤ 16384 ∧ ∀ j : Nat, j < t → zp_tok N M j) ∧ (N.1 24 = nI k ∧ M.1 17 = nI k ∧ k ≤ t ∧ ∀ j : Nat, j < k → N.2.1 23 j = M.2.1 18 j)
theorem zk_lowBits_eq {X Y : zc_N} (h1 : X.2.1 70 = Y.2.1 70) (h0 : X.2.1 0 = Y.2.1 0) (h2 : X.1 71 = Y.1 71) (h3 : X.1 1 = Y.1 1) (k : Int32) : zk_lowBits X k = zk_lowBits Y k := by
  have hf : ∀ a b : Int32, zk_fact X a b = zk_fact Y a b := fun a b => by unfold zk_fact zk_has; rw [h1, h2]
  have hb : ∀ a b : Int32, zk_byteOf X a b = zk_byteOf Y a b := fun a b => by unfold zk_byteOf zk_byteAt; rw [hf, hf, h0, h3]
  have hl : ∀ (b : Int32) (m i : Nat) (v : Int64), zk_lows X k b m i v = zk_lows Y k b m i v := by
    intro b m
    induction m with
    | zero => intro i v; rfl
    | succ m ih => intro i v; rw [zk_lows_s rfl, zk_lows_s rfl, ih, hb]
  unfold zk_lowBits zk_fd
  rw [hf, hf, hb, hl]
/-- what the tokens rest on -/
theorem zp_tok_eq {N X : zc_N} {M Y : zm_M} {k : Nat} (h : zp_tok N M k) (h1 : X.2.1 70 = N.2.1 70) (h0 : X.2.1 0 = N.2.1 0) (h2 : X.1 71 = N.1 71) (h3 : X.1 1 = N.1 1) (g1 : ∀ a : Nat, a ≠ 1 → a ≠ 43 → Y.2.1 a = M.2.1 a) (g2 : Y.2.2 = M.2.2) : zp_tok X Y k := by
  have e := zk_lowBits_eq h1 h0 h2 h3 (nI k)
  unfold zp_tok at h ⊢
  rw [h1, h0, h3, e, g1 4 (by decide) (by decide), g1 5 (by decide) (by decide), g1 6 (by decide) (by decide), g1 7 (by decide) (by decide), g1 8 (by decide) (by decide), g1 9 (by decide) (by decide), g1 10 (by decide) (by decide), g1 11 (by decide) (by decide), g1 12 (by decide) (by decide), g1 13 (by decide) (by decide), g1 16 (by decide) (by decide), g2]
  exact h
-- the calls that only ask
theorem zp_size {N : zc_N} {M : zm_M} {n t k : Nat} (h : zp_R N M n t k) : N.1 61 = M.1 2 := h.2.1.1.trans h.2.1.2.1.symm
theorem zp_count {N : zc_N} {M : zm_M} {n t k : Nat} (h : zp_R N M n t k) : N.1 71 = M.1 3 := h.2.2.1.1.trans h.2.2.1.2.1.symm
theorem zp_names {N : zc_N} {M : zm_M} {n t k : Nat} (h : zp_R N M n t k) : N.1 24 = M.1 17 := h.2.2.2.1.trans h.2.2.2.2.1.symm
theorem zp_firstOf {N : zc_N} {M : zm_M} {n t k : Nat} (h : zp_R N M n t k) (x : Int32) : zk_first N x = zr_firstOf M x := by
  obtain ⟨hI, -, ⟨t1, t2, t3, t4⟩, k1, k2, k3, k4⟩ := h
  have hl := zc_len hI 23 (by decide)
  unfold zk_first zr_firstOf
  by_cases h0 : x < 0
  · rw [if_neg (fun z => z.1 h0), if_pos (Or.inl h0)]
  · obtain ⟨j, hj, rfl⟩ := nI_of h0
    rw [k1, k2]
    by_cases h1 : nI j < nI k
    · have hjk : j < k := z_lit hj (by omega) h1
      have hkl : k ≤ N.2.2.2 23 := by
        obtain ⟨k', t', e1, -, -, e4, e5⟩ := hI.2.2.2.2.1
        have : k' = k := z_injC (by omega) (by omega) (e1.symm.trans k1)
        omega
      rw [if_pos ⟨h0, h1, nI_lt (by omega) (by omega)⟩, if_neg (fun z => by rcases z with z | z; exact h0 z; exact z h1), nI_clamp hj]
      exact k4 j hjk
    · rw [if_neg (fun z => h1 z.2.1), if_pos (Or.inr h1)]
theorem zp_has {N : zc_N} {M : zm_M} {n t k : Nat} (h : zp_R N M n t k) (x : Int32) : zk_has N x = 0 ↔ (x < 0 ∨ ¬ x < M.1 3) := by
  unfold zk_has
  rw [zp_count h]
  by_cases h9 : x < 0 ∨ ¬ x < M.1 3
  · rw [if_pos h9]; exact ⟨fun _ => h9, fun _ => rfl⟩
  · rw [if_neg h9]; exact ⟨fun z => absurd z (by decide), fun z => absurd z h9⟩
/-- a token that is there -/
theorem zp_at {N : zc_N} {M : zm_M} {n t k : Nat} (h : zp_R N M n t k) {x : Int32} (hx : ¬ (x < 0 ∨ ¬ x < M.1 3)) : ∃ j : Nat, j < t ∧ j < 16384 ∧ x = nI j ∧ zp_tok N M j := by
  obtain ⟨hI, -, ⟨t1, t2, t3, t4⟩, -⟩ := h
  have h0 : ¬ x < 0 := fun z => hx (Or.inl z)
  have h1 : x < M.1 3 := Decidable.byContradiction fun z => hx (Or.inr z)
  obtain ⟨j, hj, rfl⟩ := nI_of h0
  rw [t2] at h1
  have hjt : j < t := z_lit hj (by omega) h1
  exact ⟨j, hjt, by omega, rfl, t4 j hjt⟩
theorem zp_fact {N : zc_N} {M : zm_M} {n t k : Nat} (h : zp_R N M n t k) {j : Nat} (hj : j < t) (w : Nat) (hw : w < 11) : zk_fact N (nI j) (nI w) = N.2.1 70 (j * 11 + w) := by
  obtain ⟨hI, -, ⟨t1, t2, t3, t4⟩, -⟩ := h
  unfold zk_fact
  have e1 : ¬ zk_has N (nI j) = 0 := by
    unfold zk_has
    rw [t1, if_neg (fun z => by rcases z with z | z; exact nI_pos (by omega) z; exact z (nI_lt hj (by omega)))]
    decide
  rw [if_pos ⟨e1, nI_pos (by omega), nI_lt (show w < 11 from hw) (by decide)⟩, z_mul11, nI_add, nI_clamp (by omega)]
theorem zp_token {N : zc_N} {M : zm_M} {n t k : Nat} (h : zp_R N M n t k) (x w : Int32) : (zx_tok N x w ↔ (x < 0 ∨ ¬ x < M.1 3 ∨ w < 0 ∨ 8 < w)) ∧ (¬ zx_tok N x w → zk_fact N x w = zr_tok M x w) := by
  have e : zx_tok N x w ↔ (x < 0 ∨ ¬ x < M.1 3 ∨ w < 0 ∨ 8 < w) := by
    unfold zx_tok
    rw [zp_has h, or_assoc]
  refine ⟨e, fun hb => ?_⟩
  rw [e] at hb
  obtain ⟨j, hj, hj6, rfl, hT⟩ := zp_at h (x := x) (fun z => hb (by rcases z with z | z; exact Or.inl z; exact Or.inr (Or.inl z)))
  have hw0 : ¬ w < 0 := fun z => hb (Or.inr (Or.inr (Or.inl z)))
  have hw8 : ¬ 8 < w := fun z => hb (Or.inr (Or.inr (Or.inr z)))
  obtain ⟨v, hv, rfl⟩ := nI_of hw0
  have hv9 : v < 9 := by
    rcases Nat.lt_or_ge 8 v with q | q
    · exact absurd (nI_lt q hv) hw8
    · omega
  rw [zp_fact h hj v (by omega)]
  unfold zr_tok
  rw [if_neg hb, nI_clamp (by omega)]
  obtain ⟨⟨f0, f1, f2, f3, f4, f5, f6, f7, f8, f9⟩, -⟩ := hT
  have hc : v = 0 ∨ v = 1 ∨ v = 2 ∨ v = 3 ∨ v = 4 ∨ v = 5 ∨ v = 6 ∨ v = 7 ∨ v = 8 := by omega
  rcases hc with rfl | rfl | rfl | rfl | rfl | rfl | rfl | rfl | rfl
  · exact f0
  · exact f1
  · exact f2
  · exact f3
  · exact f4
  · exact f5
  · exact f6
  · exact f7
  · exact f8
theorem zp_byteOf {N : zc_N} {M : zm_M} {n t k : Nat} (h : zp_R N M n t k) (x i : Int32) : (zx_byt N x i ↔ (x < 0 ∨ ¬ x < M.1 3 ∨ i < 0 ∨ ¬ i < M.2.1 13 x.toNatClampNeg)) ∧ (¬ zx_byt N x i → zk_byteOf N x i = zr_byteOf M x i) := by
  unfold zx_byt
  by_cases hx : x < 0 ∨ ¬ x < M.1 3
  · have e1 : zk_fact N x 8 = -1 := by
      unfold zk_fact
      rw [if_neg (fun z => z.1 ((zp_has h x).mpr hx))]
    have e2 : zk_byteOf N x i = -1 := by
      unfold zk_byteOf
      rw [e1, if_neg]
      intro z
      have z1 := z.1
      have z2 := z.2
      rw [Int32.lt_iff_toInt_lt] at z1 z2
      have a1 : (-1 : Int32).toInt = -1 := rfl
      have a0 : (0 : Int32).toInt = 0 := rfl
      omega
    exact ⟨⟨fun _ => by rcases hx with z | z; exact Or.inl z; exact Or.inr (Or.inl z), fun _ => e2⟩, fun z => absurd e2 z⟩
  · obtain ⟨j, hj, hj6, rfl, hT⟩ := zp_at h hx
    obtain ⟨⟨f0, f1, f2, f3, f4, f5, f6, f7, f8, f9⟩, ⟨q, w, u, q1, q2, q3, q4, q5, q6, -⟩, -⟩ := hT
    have hc : (nI j).toNatClampNeg = j := nI_clamp (by omega)
    have e8 : zk_fact N (nI j) 8 = nI w := (zp_fact h hj 8 (by decide)).trans (f8.trans q2)
    have e9 : zk_fact N (nI j) 9 = nI q := (zp_fact h hj 9 (by decide)).trans (f9.trans q1)
    unfold zk_byteOf zr_byteOf
    rw [hc, e8, e9, q1, q2]
    by_cases hi : i < 0 ∨ ¬ i < nI w
    · rw [if_neg (fun z => by rcases hi with y | y; exact z.1 y; exact y z.2)]
      exact ⟨⟨fun _ => Or.inr (Or.inr hi), fun _ => rfl⟩, fun z => absurd rfl z⟩
    · have hi0 : ¬ i < 0 := fun z => hi (Or.inl z)
      have hi1 : i < nI w := Decidable.byContradiction fun z => hi (Or.inr z)
      obtain ⟨v, hv, rfl⟩ := nI_of hi0
      have hvw : v < w := z_lit hv (by omega) hi1
      rw [if_pos ⟨hi0, hi1⟩, if_neg (fun z => by rcases z with z | z | z; exact hx (Or.inl z); exact hx (Or.inr (Or.inl z |>.elim id (fun y => y))); exact hi z)]
      unfold zk_byteAt
      rw [nI_add, q3, if_pos ⟨nI_pos (by omega), nI_lt (by omega) (by omega)⟩, nI_clamp (by omega), q6 v hvw]
      have hne : ¬ M.2.1 16 (q + v) &&& 255 = -1 := by
        obtain ⟨y, hy, e⟩ := pk_andE (M.2.1 16 (q + v)) (m := 255) 8 (by decide)
        rw [e]
        intro z
        have z1 := nI_pos (n := y) (by omega)
        rw [z] at z1
        exact z1 (by decide)
      exact ⟨⟨fun z => absurd z hne, fun z => by rcases z with z | z | z; exact absurd z (fun z => hx (Or.inl z)); exact absurd z (fun z => hx (Or.inr z)); exact absurd z hi⟩, fun _ => rfl⟩
theorem zp_number {N : zc_N} {M : zm_M} {n t k : Nat} (h : zp_R N M n t k) (x : Int32) : (zx_num N x ↔ (x < 0 ∨ ¬ x < M.1 3 ∨ (¬ M.2.1 4 x.toNatClampNeg = 2 ∧ ¬ M.2.1 4 x.toNatClampNeg = 4))) ∧ (¬ zx_num N x → zk_num N x = zr_num M x) := by
  unfold zx_num
  by_cases hx : x < 0 ∨ ¬ x < M.1 3
  · have e1 : zk_fact N x 0 = -1 := by
      unfold zk_fact
      rw [if_neg (fun z => z.1 ((zp_has h x).mpr hx))]
    rw [e1]
    exact ⟨⟨fun _ => by rcases hx with z | z; exact Or.inl z; exact Or.inr (Or.inl z), fun _ => by decide⟩, fun z => absurd (by decide) z⟩
  · obtain ⟨j, hj, hj6, rfl, hT⟩ := zp_at h hx
    obtain ⟨⟨f0, f1, f2, f3, f4, f5, f6, f7, f8, f9⟩, -, hr, hi⟩ := hT
    have hc : (nI j).toNatClampNeg = j := nI_clamp (by omega)
    have e0 : zk_fact N (nI j) 0 = M.2.1 4 j := (zp_fact h hj 0 (by decide)).trans f0
    have e10 : zk_fact N (nI j) 10 = N.2.1 70 (j * 11 + 10) := zp_fact h hj 10 (by decide)
    rw [hc, e0]
    refine ⟨⟨fun z => Or.inr (Or.inr ⟨z.2, z.1⟩), fun z => ?_⟩, fun z => ?_⟩
    · rcases z with z | z | z
      · exact absurd (Or.inl z) hx
      · exact absurd (Or.inr z) hx
      · exact ⟨z.2, z.1⟩
    · have hn9 : ¬ (nI j < 0 ∨ ¬ nI j < M.1 3 ∨ (¬ M.2.1 4 j = 2 ∧ ¬ M.2.1 4 j = 4)) := by
        intro y
        rcases y with y | y | y
        · exact hx (Or.inl y)
        · exact hx (Or.inr y)
        · exact z ⟨y.2, y.1⟩
      unfold zk_num zr_num
      rw [hc, e0]
      by_cases h4 : M.2.1 4 j = 4
      · rw [if_pos h4, if_neg hn9, e10]
        exact (hr h4).symm
      · rw [if_neg h4, if_neg hn9]
        have h2 : M.2.1 4 j = 2 := Decidable.byContradiction fun y => z ⟨h4, y⟩
        exact (hi h2).symm
-- feed and end
theorem zc_four_at {N : zc_N} {n : Nat} (hn : N.1 61 = nI n) (hL : n + 4 ≤ N.2.2.2 60) (hl : N.2.2.2 60 ≤ 200000) (v : Int32) : (zc_four N v).1 61 = nI (n + 4) ∧ (∀ k : Nat, k ≠ 61 → (zc_four N v).1 k = N.1 k) ∧ (∀ a : Nat, a ≠ 60 → (zc_four N v).2.1 a = N.2.1 a) ∧ (zc_four N v).2.2 = N.2.2 ∧ (∀ i : Nat, i < n → (zc_four N v).2.1 60 i = N.2.1 60 i) ∧ (∀ i : Nat, i < 4 → (zc_four N v).2.1 60 (n + i) = zk_byte v (nI (24 - 8 * i))) := by
  have e1 : N.1 61 + 1 = nI (n + 1) := by rw [hn, nI_1]
  have e2 : N.1 61 + 1 + 1 = nI (n + 2) := by rw [e1, nI_1]
  have e3 : N.1 61 + 1 + 1 + 1 = nI (n + 3) := by rw [e2, nI_1]
  have e4 : N.1 61 + 1 + 1 + 1 + 1 = nI (n + 4) := by rw [e3, nI_1]
  have c0 : (N.1 61).toNatClampNeg = n := by rw [hn]; exact nI_clamp (by omega)
  have c1 : (N.1 61 + 1).toNatClampNeg = n + 1 := by rw [e1]; exact nI_clamp (by omega)
  have c2 : (N.1 61 + 1 + 1).toNatClampNeg = n + 2 := by rw [e2]; exact nI_clamp (by omega)
  have c3 : (N.1 61 + 1 + 1 + 1).toNatClampNeg = n + 3 := by rw [e3]; exact nI_clamp (by omega)
  unfold zc_four
  rw [if_pos (by rw [hn]; exact nI_lt (by omega) (by omega)), if_pos (by rw [e1]; exact nI_lt (by omega) (by omega)), if_pos (by rw [e2]; exact nI_lt (by omega) (by omega)), if_pos (by rw [e3]; exact nI_lt (by omega) (by omega))]
  have hrow : (zc_put (zc_put (zc_put (zc_put N (zk_byte v 24)) (zk_byte v 16)) (zk_byte v 8)) (zk_byte v 0)).2.1 60 = upd (upd (upd (upd (N.2.1 60) (N.1 61).toNatClampNeg (zk_byte v 24)) (N.1 61 + 1).toNatClampNeg (zk_byte v 16)) (N.1 61 + 1 + 1).toNatClampNeg (zk_byte v 8)) (N.1 61 + 1 + 1 + 1).toNatClampNeg (zk_byte v 0) := rfl
  refine ⟨e4, fun k hk => ?_, fun a ha => ?_, rfl, fun i hi => ?_, fun i hi => ?_⟩
  · show upd (upd (upd (upd N.1 61 _) 61 _) 61 _) 61 _ k = N.1 k
    rw [zq_upd, if_neg hk, zq_upd, if_neg hk, zq_upd, if_neg hk, zq_upd, if_neg hk]
  · show (if a = 60 then _ else (if a = 60 then _ else (if a = 60 then _ else (if a = 60 then _ else N.2.1 a)))) = N.2.1 a
    rw [if_neg ha, if_neg ha, if_neg ha, if_neg ha]
  · rw [hrow, c0, c1, c2, c3, zq_upd, if_neg (by omega), zq_upd, if_neg (by omega), zq_upd, if_neg (by omega), zq_upd, if_neg (by omega)]
  · rw [hrow, c0, c1, c2, c3]
    have hc : i = 0 ∨ i = 1 ∨ i = 2 ∨ i = 3 := by omega
    rcases hc with rfl | rfl | rfl | rfl
    · rw [zq_upd, if_neg (by omega), zq_upd, if_neg (by omega), zq_upd, if_neg (by omega), zq_upd, if_pos (by omega)]
      rfl
    · rw [zq_upd, if_neg (by omega), zq_upd, if_neg (by omega), zq_upd, if_pos (by omega)]
      rfl
    · rw [zq_upd, if_neg (by omega), zq_upd, if_pos (by omega)]
      rfl
    · rw [zq_upd, if_pos (by omega)]
      rfl
/-- what the reference writes at place j of twenty -/
def zp_fb (a b c d e : Int32) (j : Nat) : Int32 := vp_nar .byte ((zr_fv a b c d e (nI j) >>> ((24 - 8 * (nI j - nI j / 4 * 4)) &&& 31)).toInt8.toInt32)
theorem zm_feed_at {M : zm_M} {n : Nat} (hn : M.1 2 = nI n) (hn6 : n + 20 ≤ 60000) (a b c d e : Int32) : ∀ j : Nat, j ≤ 20 → (zm_feedN M a b c d e j).1 2 = nI (n + j) ∧ (∀ k : Nat, k ≠ 2 → (zm_feedN M a b c d e j).1 k = M.1 k) ∧ (∀ q : Nat, q ≠ 1 → (zm_feedN M a b c d e j).2.1 q = M.2.1 q) ∧ (zm_feedN M a b c d e j).2.2 = M.2.2 ∧ (∀ i : Nat, i < n → (zm_feedN M a b c d e j).2.1 1 i = M.2.1 1 i) ∧ (∀ i : Nat, i < j → (zm_feedN M a b c d e j).2.1 1 (n + i) = zp_fb a b c d e i) := by
  intro j
  induction j with
  | zero => intro _; exact ⟨hn, fun _ _ => rfl, fun _ _ => rfl, rfl, fun _ _ => rfl, fun i hi => absurd hi (Nat.not_lt_zero _)⟩
  | succ j ih =>
    intro hj
    obtain ⟨h1, h2, h3, h4, h5, h6⟩ := ih (by omega)
    have hc : ((zm_feedN M a b c d e j).1 2).toNatClampNeg = n + j := by rw [h1]; exact nI_clamp (by omega)
    have hrow : (zm_feedN M a b c d e (j + 1)).2.1 1 = upd ((zm_feedN M a b c d e j).2.1 1) ((zm_feedN M a b c d e j).1 2).toNatClampNeg (zp_fb a b c d e j) := rfl
    refine ⟨?_, fun k hk => ?_, fun q hq => ?_, h4, fun i hi => ?_, fun i hi => ?_⟩
    · show (zm_feedN M a b c d e j).1 2 + 1 = nI (n + (j + 1))
      rw [h1, nI_1]
      rfl
    · show upd (zm_feedN M a b c d e j).1 2 _ k = M.1 k
      rw [zq_upd, if_neg hk]
      exact h2 k hk
    · show (if q = 1 then _ else (zm_feedN M a b c d e j).2.1 q) = M.2.1 q
      rw [if_neg hq]
      exact h3 q hq
    · rw [hrow, hc, zq_upd, if_neg (by omega)]
      exact h5 i hi
    · rw [hrow, hc, zq_upd]
      by_cases hij : i = j
      · rw [if_pos (by omega), hij]
      · rw [if_neg (by omega)]
        exact h6 i (by omega)
theorem z_sh4 : ∀ j : Nat, j < 20 → 24 - 8 * (nI j - nI j / 4 * 4) = nI (24 - 8 * (j % 4)) := by decide +kernel
theorem z_fv (a b c d e : Int32) : ∀ j : Nat, j < 20 → zr_fv a b c d e (nI j) = if j / 4 = 0 then a else if j / 4 = 1 then b else if j / 4 = 2 then c else if j / 4 = 3 then d else e := by
  intro j hj
  unfold zr_fv
  have h4 : (nI j < 4) = (j < 4) := propext (nI_ltI (a := j) (b := 4) (by omega) (by decide))
  have h8 : (nI j < 8) = (j < 8) := propext (nI_ltI (a := j) (b := 8) (by omega) (by decide))
  have h12 : (nI j < 12) = (j < 12) := propext (nI_ltI (a := j) (b := 12) (by omega) (by decide))
  have h16 : (nI j < 16) = (j < 16) := propext (nI_ltI (a := j) (b := 16) (by omega) (by decide))
  simp only [h4, h8, h12, h16]
  have hg : j / 4 = 0 ∨ j / 4 = 1 ∨ j / 4 = 2 ∨ j / 4 = 3 ∨ j / 4 = 4 := by omega
  rcases hg with q | q | q | q | q
  · rw [q, if_pos (show j < 4 by omega)]
    rfl
  · rw [q, if_neg (show ¬ j < 4 by omega), if_pos (show j < 8 by omega)]
    rfl
  · rw [q, if_neg (show ¬ j < 4 by omega), if_neg (show ¬ j < 8 by omega), if_pos (show j < 12 by omega)]
    rfl
  · rw [q, if_neg (show ¬ j < 4 by omega), if_neg (show ¬ j < 8 by omega), if_neg (show ¬ j < 12 by omega), if_pos (show j < 16 by omega)]
    rfl
  · rw [q, if_neg (show ¬ j < 4 by omega), if_neg (show ¬ j < 8 by omega), if_neg (show ¬ j < 12 by omega), if_neg (show ¬ j < 16 by omega)]
    rfl
theorem zp_fb_eq (a b c d e : Int32) (g : Nat) (hg : g < 5) (i : Nat) (hi : i < 4) : zp_fb a b c d e (4 * g + i) = zk_byte (if g = 0 then a else if g = 1 then b else if g = 2 then c else if g = 3 then d else e) (nI (24 - 8 * i)) := by
  unfold zp_fb zk_byte
  rw [z_fv a b c d e (4 * g + i) (by omega), z_sh4 (4 * g + i) (by omega), show (4 * g + i) / 4 = g by omega, show (4 * g + i) % 4 = i by omega, z_low8 (24 - 8 * i) (by omega)]
theorem zc_room {N : zc_N} (hI : zc_I N) {n : Nat} (hn : N.1 61 = nI n) (h : n + 20 ≤ 60000) : zk_makeRoom N 20 = 1 ∧ (zc_makeRoom N 20).1 = N.1 ∧ (∀ a : Nat, a ≠ 60 → (zc_makeRoom N 20).2.1 a = N.2.1 a) ∧ (∀ a : Nat, a ≠ 60 → (zc_makeRoom N 20).2.2.2 a = N.2.2.2 a) ∧ (∀ i : Nat, i < n → (zc_makeRoom N 20).2.1 60 i = N.2.1 60 i) ∧ n + 20 ≤ (zc_makeRoom N 20).2.2.2 60 := by
  have hl := zc_len hI 60 (by decide)
  obtain ⟨⟨⟨a9, a1, a2⟩, -⟩, ⟨z, z1, z2⟩, -⟩ := id hI
  have hz : z = n := z_injC (by omega) (by omega) (z1.symm.trans hn)
  have p0 := Nat.two_pow_pos a9
  have e1 : N.1 61 + 20 = nI (n + 20) := by rw [hn]; exact nI_add n 20
  have h6 : ¬ 65536 < N.1 61 + 20 := by
    rw [e1]
    exact nI_nlt (show n + 20 ≤ 65536 by omega) (by decide)
  have hi2 := zi_makeRoom hI 20
  have hl2 := zc_len hi2 60 (by decide)
  have hm : zc_makeRoom N 20 = if nI (N.2.2.2 60) < N.1 61 + 20 then zc_g N 60 (2 * N.2.2.2 60) else N := by
    unfold zc_makeRoom
    rw [if_neg h6]
  have hlen : n + 20 ≤ (zc_makeRoom N 20).2.2.2 60 := by
    rw [hm]
    split
    · show n + 20 ≤ 2 * N.2.2.2 60
      omega
    · rename_i g
      rw [e1] at g
      rcases Nat.lt_or_ge (N.2.2.2 60) (n + 20) with q | q
      · exact absurd (nI_lt q (by omega)) g
      · exact q
  refine ⟨?_, ?_, fun a ha => ?_, fun a ha => ?_, fun i hi => ?_, hlen⟩
  · unfold zk_makeRoom
    rw [if_neg h6, if_neg]
    rw [e1]
    exact nI_nlt hlen (by omega)
  · rw [hm]
    split <;> rfl
  · rw [hm]
    split
    · show (if a = 60 then _ else N.2.1 a) = N.2.1 a
      rw [if_neg ha]
    · rfl
  · rw [hm]
    split
    · show (if a = 60 then _ else N.2.2.2 a) = N.2.2.2 a
      rw [if_neg ha]
    · rfl
  · rw [hm]
    split
    · show (if i < N.2.2.2 60 then N.2.1 60 i else 0) = N.2.1 60 i
      rw [if_pos (by omega)]
    · rfl
