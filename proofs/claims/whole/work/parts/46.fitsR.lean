/-- a digit of the row -/
def zv_x (pl : Nat → Int32) (q j : Nat) : Nat := (zr_worth (pl (q + j))).toNatClampNeg
theorem zv_x_of {pl : Nat → Int32} {q j x : Nat} (hx : x < 65536) (h : zr_worth (pl (q + j)) = nI x) : zv_x pl q j = x := by
  unfold zv_x
  rw [h]
  exact nI_clamp (by omega)
theorem zp_int_x {pl : Nat → Int32} {q w s b : Nat} (h : zp_int pl q w s b) {j : Nat} (h1 : s ≤ j) (h2 : j < w) : zr_worth (pl (q + j)) = nI (zv_x pl q j) ∧ zv_x pl q j < b ∧ zv_x pl q j < 16 ∧ ∃ n : Nat, n < 128 ∧ 48 ≤ n ∧ pl (q + j) = nI n := by
  obtain ⟨-, hb, -, -, -, -, hd⟩ := h
  obtain ⟨x, x1, x2⟩ := hd j h1 h2
  have hb16 : b ≤ 16 := by rcases hb with r | r | r | r <;> omega
  have e := zv_x_of (by omega) x2
  rw [e]
  exact ⟨x2, x1, by omega, z_worth16 (by omega) x2⟩
theorem zr_from_eq {M : zm_M} {k q w s b : Nat} (hk : k < 16384) (h12 : M.2.1 12 k = nI q) (h13 : M.2.1 13 k = nI w) (h11 : M.2.1 11 k = nI b) (hqw : q + w ≤ 60000) (h : zp_int (M.2.1 16) q w s b) : zr_digitsFrom M (nI k) = nI (q + s) := by
  obtain ⟨h1, hb, hs, hs2, h5, h6, -⟩ := h
  have hc : (nI k).toNatClampNeg = k := nI_clamp (by omega)
  have hq1 : (nI q + 1).toNatClampNeg = q + 1 := by rw [nI_1]; exact nI_clamp (by omega)
  unfold zr_digitsFrom
  rw [hc, h11, h12, h13, hq1]
  rcases hs with rfl | ⟨rfl, hb10⟩
  · rw [if_neg, Nat.add_zero]
    intro z
    rcases z with ⟨z1, z2, z3⟩ | z
    · have hw1 : 1 < w := z_lit (by decide) (by omega) z2
      exact (h6 rfl hw1).2 z3
    · have : b = 2 := z_injC (by omega) (by decide) z
      exact absurd (hs2 (Or.inl this)) (by decide)
  · rw [if_pos]
    · exact nI_add q 2
    · refine Or.inl ⟨fun z => hb10 (z_injC (by omega) (by decide) z), nI_lt (show 1 < w by omega) (by omega), (h5 rfl).2⟩
theorem z_big : 2 ^ 512 < 10 ^ 155 := by decide +kernel
theorem z_top : ∀ x : Nat, x < 16 → 1 ≤ x → ∃ t : Nat, zr_top (nI x) = nI t ∧ t ≤ 4 ∧ 1 ≤ t ∧ 2 ^ (t - 1) ≤ x ∧ x < 2 ^ t := by
  intro x hx h1
  have : ∀ x : Nat, x < 16 → 1 ≤ x → ∃ t, t < 5 ∧ (zr_top (nI x) = nI t ∧ t ≤ 4 ∧ 1 ≤ t ∧ 2 ^ (t - 1) ≤ x ∧ x < 2 ^ t) := by decide +kernel
  obtain ⟨t, -, ht⟩ := this x hx h1
  exact ⟨t, ht⟩
theorem zr_fb_eq {M : zm_M} {k q w s b B : Nat} (hk : k < 16384) (h12 : M.2.1 12 k = nI q) (h13 : M.2.1 13 k = nI w) (h11 : M.2.1 11 k = nI b) (hqw : q + w ≤ 60000) (h : zp_int (M.2.1 16) q w s b) (hB : B ≤ 512) :
    zr_fb (zm_0 M) (nI k) (zr_skip (M.2.1 16) (q + s) (q + w - (q + s))) (q + w) B = if zv_fold (zv_x (M.2.1 16) q) b (w - s) s 0 < 2 ^ B then 1 else 0 := by
  have hsw : s < w := h.1
  have hb := h.2.1
  have hpB : 2 ^ B ≤ 2 ^ 512 := z_pw hB
  have hzero : ∀ j : Nat, s ≤ j → j < w → (M.2.1 16 (q + j) = 48 ↔ zv_x (M.2.1 16) q j = 0) := by
    intro j a c
    obtain ⟨e1, e2, e3, n, n1, n2, e4⟩ := zp_int_x h a c
    have := (z_chars n n1).2.2.1
    rw [← e4, e1] at this
    rw [this]
    exact ⟨fun z => z_injC (by omega) (by decide) z, fun z => by rw [z]; rfl⟩
  obtain ⟨z, z1, z2, z3, z4⟩ := zv_skip (q := q) (w - s) s (by omega) hzero
  rw [show q + w - (q + s) = w - s by omega, z2, z3 b]
  have hc : (nI k).toNatClampNeg = k := nI_clamp (by omega)
  unfold zr_fb
  rw [hc]
  show (if q + s + z = q + w then 1 else if M.2.1 11 k = 10 then zr_below (zm_0 M) (q + s + z) (q + w - (q + s + z)) B else if nI B < zr_each (M.2.1 11 k) * (nI (q + w) - nI (q + s + z) - 1) + zr_top (zr_worth (M.2.1 16 (nI (q + s + z)).toNatClampNeg)) then 0 else 1) = _
  rw [h11]
  by_cases hz : z = w - s
  · rw [if_pos (by omega), hz, Nat.sub_self, if_pos]
    exact Nat.two_pow_pos B
  · have hzl : z < w - s := by omega
    rw [if_neg (by omega)]
    obtain ⟨m, hm⟩ : ∃ m, w - s - z = m + 1 := ⟨w - s - z - 1, by omega⟩
    have hx0 := z4 hzl
    have hdig : ∀ j : Nat, s + z ≤ j → j < s + z + (m + 1) → zv_x (M.2.1 16) q j < b := fun j a c => (zp_int_x h (by omega) (by omega)).2.1
    have hVlt := zv_lt (m + 1) (s + z) hdig
    have hVge : b ^ m ≤ zv_fold (zv_x (M.2.1 16) q) b (m + 1) (s + z) 0 := by
      show b ^ m ≤ zv_fold (zv_x (M.2.1 16) q) b m (s + z + 1) (b * 0 + zv_x (M.2.1 16) q (s + z))
      rw [zv_base, Nat.mul_zero, Nat.zero_add]
      have := Nat.mul_le_mul_right (b ^ m) (show 1 ≤ zv_x (M.2.1 16) q (s + z) by omega)
      omega
    rw [hm]
    by_cases hb10 : b = 10
    · subst hb10
      rw [if_pos (show nI 10 = (10 : Int32) from rfl), show q + w - (q + s + z) = m + 1 by omega]
      unfold zr_below
      by_cases h155 : 155 < m + 1
      · rw [if_pos (show (155 : Int32) < nI (m + 1) from nI_lt h155 (by omega)), if_neg]
        have h3 : 10 ^ 155 ≤ 10 ^ m := Nat.pow_le_pow_right (by decide) (by omega)
        have := z_big
        omega
      · rw [if_neg (show ¬ (155 : Int32) < nI (m + 1) from nI_nlt (show m + 1 ≤ 155 by omega) (by decide))]
        have hV160 : zv_fold (zv_x (M.2.1 16) q) 10 (m + 1) (s + z) 0 < 10 ^ 160 := Nat.lt_of_lt_of_le hVlt (Nat.pow_le_pow_right (by decide) (by omega))
        have hB160 : 2 ^ B < 10 ^ 160 := Nat.lt_of_le_of_lt hpB (Nat.lt_of_lt_of_le z_big (Nat.pow_le_pow_right (by decide) (by decide)))
        rw [zv_cmp (d := zr_dig (zm_0 M) (q + s + z) (m + 1)) (q := zr_pw B) (A := zv_fold (zv_x (M.2.1 16) q) 10 (m + 1) (s + z) 0) (C := 2 ^ B) 160 (fun i hi => ?_) (fun i hi => rfl), Nat.mod_eq_of_lt hV160, Nat.mod_eq_of_lt hB160]
        unfold zr_dig
        by_cases him : i < m + 1
        · rw [if_pos (nI_lt him (by omega)), zv_digit (m + 1) (s + z) i hdig him]
          rw [nI_add, show (1 : Int32) = nI 1 from rfl, pk_sub (by omega), pk_sub (by omega), nI_clamp (by omega), show q + s + z + (m + 1) - 1 - i = q + (s + z + (m + 1 - 1 - i)) by omega]
          obtain ⟨e1, e2, e3, n, n1, n2, e4⟩ := zp_int_x h (j := s + z + (m + 1 - 1 - i)) (by omega) (by omega)
          have := (z_chars n n1).2.2.2 _ e2 (e4 ▸ e1)
          rw [← e4] at this
          exact this
        · rw [if_neg (nI_nlt (by omega) (by omega)), Nat.div_eq_of_lt (Nat.lt_of_lt_of_le hVlt (Nat.pow_le_pow_right (by decide) (by omega)))]
          rfl
    · rw [if_neg (show ¬ nI b = (10 : Int32) from fun y => hb10 (z_injC (b := 10) (by omega) (by decide) y))]
      obtain ⟨e, he1, he2, he3⟩ : ∃ e : Nat, b = 2 ^ e ∧ e ≤ 4 ∧ zr_each (nI b) = nI e := by
        rcases hb with r | r | r | r
        · exact ⟨1, r, by decide, by rw [r]; rfl⟩
        · exact ⟨3, r, by decide, by rw [r]; rfl⟩
        · exact absurd r hb10
        · exact ⟨4, r, by decide, by rw [r]; rfl⟩
      obtain ⟨e1, e2, e3, n, n1, n2, e4⟩ := zp_int_x h (j := s + z) (by omega) (by omega)
      obtain ⟨t, t1, t2, t3, t4, t5⟩ := z_top (zv_x (M.2.1 16) q (s + z)) e3 (by omega)
      have hbm : b ^ m = 2 ^ (e * m) := by rw [he1, ← Nat.pow_mul]
      have hVhi : zv_fold (zv_x (M.2.1 16) q) b (m + 1) (s + z) 0 < 2 ^ (e * m + t) := by
        show zv_fold (zv_x (M.2.1 16) q) b m (s + z + 1) (b * 0 + zv_x (M.2.1 16) q (s + z)) < _
        rw [zv_base, Nat.mul_zero, Nat.zero_add]
        have hr := zv_lt m (s + z + 1) (fun j a c => hdig j (by omega) (by omega))
        have h9 := Nat.mul_le_mul_right (b ^ m) (show zv_x (M.2.1 16) q (s + z) + 1 ≤ 2 ^ t from t5)
        rw [Nat.add_mul, Nat.one_mul] at h9
        rw [Nat.pow_add, Nat.mul_comm (2 ^ (e * m)), ← hbm]
        omega
      have hVlo : 2 ^ (e * m + t - 1) ≤ zv_fold (zv_x (M.2.1 16) q) b (m + 1) (s + z) 0 := by
        show _ ≤ zv_fold (zv_x (M.2.1 16) q) b m (s + z + 1) (b * 0 + zv_x (M.2.1 16) q (s + z))
        rw [zv_base, Nat.mul_zero, Nat.zero_add, show e * m + t - 1 = (t - 1) + e * m by omega, Nat.pow_add, ← hbm]
        have h9 := Nat.mul_le_mul_right (b ^ m) t4
        omega
      have hem : e * m ≤ 4 * 60000 := Nat.mul_le_mul he2 (by omega)
      rw [he3, pk_sub (by omega), show (1 : Int32) = nI 1 from rfl, pk_sub (by omega), nI_clamp (by omega), show q + w - (q + s + z) - 1 = m by omega, show q + s + z = q + (s + z) by omega, e1, t1, show nI e * nI m = nI (e * m) from (by show Int32.ofNat e * Int32.ofNat m = _; rw [← Int32.ofNat_mul]; rfl), nI_add]
      by_cases hBn : B < e * m + t
      · rw [if_pos (nI_lt hBn (by omega)), if_neg]
        have : 2 ^ B ≤ 2 ^ (e * m + t - 1) := z_pw (by omega)
        omega
      · rw [if_neg (nI_nlt (by omega) (by omega)), if_pos]
        have : 2 ^ (e * m + t) ≤ 2 ^ B := z_pw (by omega)
        omega
/-- fits() of both -/
theorem zp_fits {N : zc_N} {M : zm_M} {n t kk : Nat} (h : zp_R N M n t kk) (x b : Int32) : (zx_fit N x b ↔ zr_fg M x b) ∧ (¬ zx_fit N x b → ∃ k B P0 en u w : Nat, x = nI k ∧ k < 16384 ∧ b = nI B ∧ B ≤ 512 ∧ M.2.1 12 k = nI u ∧ M.2.1 13 k = nI w ∧ u + w = en ∧ en ≤ 60000 ∧ zr_digitsFrom M (nI k) = nI P0 ∧ P0 ≤ en ∧ zk_below N x b.toNatClampNeg = zr_fb (zm_0 M) (nI k) (zr_skip (M.2.1 16) P0 (en - P0)) en B) := by
  by_cases hx : x < 0 ∨ ¬ x < M.1 3
  · have e1 : zk_fact N x 0 = -1 := by
      unfold zk_fact
      rw [if_neg (fun z => z.1 ((zp_has h x).mpr hx))]
    have e2 : zx_fit N x b := Or.inl (by rw [e1]; decide)
    exact ⟨⟨fun _ => by rcases hx with z | z; exact Or.inl z; exact Or.inr (Or.inl z), fun _ => e2⟩, fun z => absurd e2 z⟩
  · obtain ⟨k, hk, hk6, rfl, hT⟩ := zp_at h hx
    have hc : (nI k).toNatClampNeg = k := nI_clamp (by omega)
    obtain ⟨⟨f0, f1, f2, f3, f4, f5, f6, f7, f8, f9⟩, ⟨q, w, u, q1, q2, q3, q4, q5, q6, q7⟩, -⟩ := hT
    have e0 : zk_fact N (nI k) 0 = M.2.1 4 k := (zp_fact h hk 0 (by decide)).trans f0
    have e7 : zk_fact N (nI k) 7 = M.2.1 11 k := (zp_fact h hk 7 (by decide)).trans f7
    have e8 : zk_fact N (nI k) 8 = nI w := (zp_fact h hk 8 (by decide)).trans (f8.trans q2)
    have e9 : zk_fact N (nI k) 9 = nI q := (zp_fact h hk 9 (by decide)).trans (f9.trans q1)
    have hiff : zx_fit N (nI k) b ↔ zr_fg M (nI k) b := by
      unfold zx_fit zr_fg
      rw [e0, hc]
      exact ⟨fun z => Or.inr (Or.inr z), fun z => by rcases z with z | z | z; exact absurd (Or.inl z) hx; exact absurd (Or.inr z) hx; exact z⟩
    refine ⟨hiff, fun hz => ?_⟩
    have hz2 : M.2.1 4 k = 2 := Decidable.byContradiction fun y => hz (Or.inl (by rw [e0]; exact y))
    have hb0 : ¬ b < 0 := fun y => hz (Or.inr (Or.inl y))
    have hb5 : ¬ 512 < b := fun y => hz (Or.inr (Or.inr y))
    obtain ⟨B, hB, rfl⟩ := nI_of hb0
    have hB5 : B ≤ 512 := by
      rcases Nat.lt_or_ge 512 B with y | y
      · exact absurd (nI_lt y hB) hb5
      · exact y
    obtain ⟨s, β, hβ, hI⟩ := q7 hz2
    have hsw := hI.1
    have hfrom := zr_from_eq hk6 q1 q2 hβ (by omega) hI
    refine ⟨k, B, q + s, q + w, q, w, rfl, hk6, rfl, hB5, q1, q2, rfl, by omega, hfrom, by omega, ?_⟩
    rw [zr_fb_eq hk6 q1 q2 hβ (by omega) hI hB5, nI_clamp hB]
    have hβ16 : β ≤ 16 ∧ 1 ≤ β := by rcases hI.2.1 with r | r | r | r <;> omega
    -- the class's bytes
    have hby : ∀ j : Nat, j < w → zk_byteOf N (nI k) (nI j) = M.2.1 16 (q + j) &&& 255 := by
      intro j hj
      unfold zk_byteOf zk_byteAt
      rw [e8, e9, if_pos ⟨nI_pos (by omega), nI_lt hj (by omega)⟩, nI_add, q3, if_pos ⟨nI_pos (by omega), nI_lt (by omega) (by omega)⟩, nI_clamp (by omega), q6 j hj]
    have hdg : ∀ j : Nat, s ≤ j → j < s + (w - s) → zk_dgt N (nI k) (nI β) j = nI (zv_x (M.2.1 16) q j) ∧ zv_x (M.2.1 16) q j < 65536 := by
      intro j h1 h2
      obtain ⟨x1, x2, x3, y, y1, y2, y3⟩ := zp_int_x hI h1 (show j < w by omega)
      refine ⟨?_, by omega⟩
      show zk_digitOf (zk_byteOf N (nI k) (nI j)) (nI β) = _
      rw [hby j (by omega), y3, (z_chars y y1).1]
      have := (z_chars y y1).2.1 _ x3 (y3 ▸ x1)
      unfold zk_digitOf
      rw [this, if_pos (nI_lt x2 (by omega))]
    have hfd : zk_fd N (nI k) = nI s := by
      unfold zk_fd
      rcases hI.2.2.1 with hs | ⟨hs, hb10⟩
      · rw [hs, if_neg]
        · rfl
        · rcases Nat.lt_or_ge 1 w with hw | hw
          · obtain ⟨x1, x2, x3, y, y1, y2, y3⟩ := zp_int_x hI (j := 1) (by omega) hw
            rw [show (1 : Int32) = nI 1 from rfl, hby 1 hw, y3, (z_chars y y1).1, ← y3]
            exact (hI.2.2.2.2.2.1 hs hw).1
          · have : zk_byteOf N (nI k) 1 = -1 := by
              unfold zk_byteOf
              rw [e8, if_neg (fun y => nI_nlt (show w ≤ 1 from hw) (by decide) y.2)]
            rw [this]
            decide
      · rw [hs, if_pos]
        · rfl
        · have h57 := (hI.2.2.2.2.1 hs).1
          have hw9 : ∃ y : Nat, y < 128 ∧ M.2.1 16 (q + 1) = nI y := by
            have hfy := h.1.2.2.2.2.2.2.1 (q + 1)
            rw [q6 1 (by omega)] at hfy
            have h0 : ¬ M.2.1 16 (q + 1) < 0 := fun y => absurd (Int32.lt_trans h57 y) (by decide)
            obtain ⟨y, hy, ey⟩ := nI_of h0
            refine ⟨y, ?_, ey⟩
            rw [ey] at hfy
            have h127 : nI y ≤ 127 := by
              have := hfy
              simp only [fits, Bool.and_eq_true, decide_eq_true_eq] at this
              exact this.2
            rcases Nat.lt_or_ge y 128 with g | g
            · exact g
            · exact absurd h127 (nI_ge (show 127 < y from g) hy)
          obtain ⟨y, y1, y2⟩ := hw9
          rw [show (1 : Int32) = nI 1 from rfl, hby 1 (by omega), y2, (z_chars y y1).1, ← y2]
          exact h57
    have hfs : (zk_fd N (nI k)).toNatClampNeg = s := by rw [hfd]; exact nI_clamp (by omega)
    have hws : (zk_fact N (nI k) 8).toNatClampNeg = w := by rw [e8]; exact nI_clamp (by omega)
    have hG0 : zl_G (zc_s N 12 0) := ⟨by show (0 : Int32).toNatClampNeg ≤ 16; decide, rfl, fun j hj => absurd hj (by show ¬ j < (0 : Int32).toNatClampNeg; exact Nat.not_lt_zero j)⟩
    have hV0 : zl_V (zc_s N 12 0) = 0 := rfl
    have hpw := zl_pow (N := N) (k := nI k) hβ16.1 hβ16.2 (x := zv_x (M.2.1 16) q) (w - s) s (zc_s N 12 0) hG0 ⟨rfl, rfl, rfl⟩ hdg
    rw [hV0] at hpw
    unfold zk_below zc_below
    rw [hfs, hws, e7, hβ]
    rcases hpw with ⟨p1, p2, p3⟩ | ⟨p1, p2⟩
    · rw [if_neg (by rw [p1]; decide), zl_hasNo p2 hB5, p3]
    · rw [if_pos p1, if_neg]
      have := z_pw hB5
      omega
