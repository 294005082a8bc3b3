/-! Escapes: the numbers. -/
theorem z_tn64 {a : Nat} (h : a < 2 ^ 64) : (lN a).toBitVec.toNat = a := Nat.mod_eq_of_lt h
theorem z_shl64 {a k : Nat} (y : Int64) (hs : (y.toBitVec.smod 64).toNat = k) (h : a * 2 ^ k < 2 ^ 63) : lN a <<< y = lN (a * 2 ^ k) := by
  have ha : a ≤ a * 2 ^ k := Nat.le_mul_of_pos_right a (Nat.two_pow_pos k)
  apply Int64.toBitVec_inj.mp
  rw [Int64.toBitVec_shiftLeft]
  show (lN a).toBitVec <<< (y.toBitVec.smod 64).toNat = _
  rw [hs]
  apply BitVec.eq_of_toNat_eq
  rw [BitVec.toNat_shiftLeft, z_tn64 (by omega), Nat.shiftLeft_eq, z_tn64 (by omega)]
  exact Nat.mod_eq_of_lt (by omega)
theorem zr_least_at (m : Nat) : ∀ k : Nat, zr_least (lN m) k = lN (m * 16 ^ k) := by
  intro k
  induction k with
  | zero => rw [Nat.pow_zero, Nat.mul_one]; rfl
  | succ k ih =>
    show zr_least (lN m) k * 16 = _
    rw [ih]
    show lN (m * 16 ^ k) * lN 16 = _
    rw [lN_mul, Nat.pow_succ, Nat.mul_assoc]
theorem zr_most_at (m : Nat) : ∀ k : Nat, zr_most (lN m) k = lN (m * 16 ^ k + (16 ^ k - 1)) := by
  intro k
  induction k with
  | zero => rw [Nat.pow_zero, Nat.mul_one]; rfl
  | succ k ih =>
    show zr_most (lN m) k * 16 + 15 = _
    rw [ih]
    show lN (m * 16 ^ k + (16 ^ k - 1)) * lN 16 + lN 15 = _
    rw [lN_mul, lN_add, Nat.pow_succ, ← Nat.mul_assoc]
    have h0 : 0 < 16 ^ k := Nat.pow_pos (by decide)
    congr 1
    omega
theorem zk_clo_at {m k : Nat} (hk : k < 8) (hm : m < 2 ^ 26) : zk_clo (lN m) k = lN (m * 16 ^ k) ∧ zk_chi (lN m) k = lN (m * 16 ^ k + (16 ^ k - 1)) := by
  have hs : ∀ k : Nat, k < 8 → (((4 * nI k).toInt64 &&& 63 : Int64).toBitVec.smod 64).toNat = 4 * k := by decide +kernel
  have hp : ∀ k : Nat, k < 8 → 16 ^ k = 2 ^ (4 * k) ∧ 16 ^ k ≤ 268435456 ∧ 1 ≤ 16 ^ k := by decide +kernel
  obtain ⟨p1, p2, p3⟩ := hp k hk
  have hb : m * 16 ^ k ≤ 2 ^ 26 * 268435456 := Nat.mul_le_mul (by omega) p2
  have e1 : zk_clo (lN m) k = lN (m * 16 ^ k) := by
    unfold zk_clo
    rw [z_shl64 _ (hs k hk) (by rw [← p1]; omega), p1]
  refine ⟨e1, ?_⟩
  unfold zk_chi
  have e2 : (1 : Int64) <<< ((4 * nI k).toInt64 &&& 63) = lN (16 ^ k) := by
    show lN 1 <<< _ = _
    rw [z_shl64 _ (hs k hk) (by rw [← p1]; omega), ← p1, Nat.one_mul]
  rw [e1, e2, lN_add]
  show lN _ - lN 1 = _
  rw [lN_sub (by omega)]
  congr 1
  omega
theorem zk_holds_or (lo hi : Int64) : zk_holds lo hi = 0 ↔ (0 < lg_cmp lo 1114111 ∨ (¬ lg_cmp lo 55296 < 0 ∧ ¬ 0 < lg_cmp hi 57343)) := by
  unfold zk_holds
  by_cases c1 : 0 < lg_cmp lo 1114111
  · rw [if_pos c1]; exact ⟨fun _ => Or.inl c1, fun _ => rfl⟩
  · rw [if_neg c1]
    by_cases c2 : ¬ lg_cmp lo 55296 < 0 ∧ ¬ 0 < lg_cmp hi 57343
    · rw [if_pos c2]; exact ⟨fun _ => Or.inr c2, fun _ => rfl⟩
    · rw [if_neg c2]; exact ⟨fun z => absurd z (by decide), fun z => by rcases z with z | z; exact absurd z c1; exact absurd z c2⟩
/-- a digit of base b: the same for both -/
abbrev zq_dg (x : Int32) (b : Nat) : Prop := (zk_digitOf x (nI b) = -1 ∧ ¬ zr_worth x < nI b) ∨ (zk_digitOf x (nI b) = zr_worth x ∧ zr_worth x < nI b ∧ ¬ zr_worth x < 0 ∧ ¬ zk_digitOf x (nI b) = -1)
theorem zq_dg_t : ∀ v : Nat, v < 256 → zq_dg (nI v) 8 ∧ zq_dg (nI v) 16 ∧ zq_dg (nI v) 2 ∧ zq_dg (nI v) 10 := by decide +kernel
theorem zq_dg_x {T : Nat → Int32} {n c b : Nat} (hT : zq_T T n) (hb : b = 8 ∨ b = 16 ∨ b = 2 ∨ b = 10) : (zk_digitOf (zq_x T n c) (nI b) = -1 ∧ ¬ zr_worth (zq_x T n c) < nI b) ∨ (c < n ∧ ∃ d : Nat, d < b ∧ zk_digitOf (zq_x T n c) (nI b) = nI d ∧ zr_worth (zq_x T n c) = nI d ∧ zr_worth (zq_x T n c) < nI b ∧ ¬ zk_digitOf (zq_x T n c) (nI b) = -1) := by
  have key : zq_dg (zq_x T n c) b := by
    rcases Nat.lt_or_ge c n with q | q
    · obtain ⟨v, v1, -, v3⟩ := zq_xv hT q
      obtain ⟨k1, k2, k3, k4⟩ := zq_dg_t v v1
      rw [v3]
      rcases hb with rfl | rfl | rfl | rfl
      · exact k1
      · exact k2
      · exact k3
      · exact k4
    · rw [zq_xe q]
      rcases hb with rfl | rfl | rfl | rfl <;> decide
  rcases key with z | ⟨z1, z2, z3, z4⟩
  · exact Or.inl z
  · refine Or.inr ⟨?_, ?_⟩
    · apply zq_lt
      intro z
      rw [z] at z4
      rcases hb with rfl | rfl | rfl | rfl <;> exact absurd (by decide) z4
    · obtain ⟨d, d1, d2⟩ := nI_of z3
      rw [d2] at z1 z2
      exact ⟨d, z_lit d1 (by omega) z2, z1, d2, by rw [d2]; exact z2, z4⟩
theorem zq_plain_t : ∀ v : Nat, v < 256 → (zr_short (nI v) < 8 ∧ ¬ zk_plain (nI v) = -1 ∧ zk_plain (nI v) = zr_sv (nI v) ∧ ¬ zr_sv (nI v) < 0 ∧ zr_sv (nI v) < 128) ∨ (¬ zr_short (nI v) < 8 ∧ zk_plain (nI v) = -1 ∧ zr_sv (nI v) = nI v) := by decide +kernel
theorem zr_short_m : ¬ zr_short (-1) < 8 ∧ zk_plain (-1) = -1 := by decide
/-! The reference inside an escape. -/
def zq_e (T : Nat → Int32) (n : Nat) (Y : zm_M) (c v : Nat) (s q : Int32) : Prop := zq_mt T n Y c ∧ Y.1 30 = -1 ∧ Y.1 15 = nI v ∧ Y.1 32 = q ∧ Y.1 21 = s ∧ ∃ t a : Nat, t ≤ 16384 ∧ Y.1 3 = nI t ∧ a ≤ 60000 ∧ Y.1 23 = nI a
theorem zq_q_e {T : Nat → Int32} {n : Nat} {Y : zm_M} {c v : Nat} {s q : Int32} (h : zq_q T n Y c v s q) : zq_e T n Y c v s q := by
  obtain ⟨h1, h2, h3, -, -, h4, h5, h6⟩ := h
  exact ⟨h1, h2, h3, h4, h5, h6⟩
theorem zq_e_q {T : Nat → Int32} {n : Nat} {Y : zm_M} {c v : Nat} {s q : Int32} (h : zq_e T n Y c v s q) (h36 : Y.1 36 = 0) (h39 : Y.1 39 = 0) : zq_q T n Y c v s q := by
  obtain ⟨h1, h2, h3, h4, h5, h6⟩ := h
  exact ⟨h1, h2, h3, h36, h39, h4, h5, h6⟩
section
variable {T : Nat → Int32} {n : Nat} {Y : zm_M} {c v : Nat} {s q : Int32}
theorem zq_stop2 (hT : zq_T T n) (hY : zq_e T n Y c v s q) (hs : s = 15 ∨ s = 16 ∨ s = 18 ∨ s = 19 ∨ s = 20) (hc : c ≤ n) (hv : v ≤ 60000) (h36 : 0 < Y.1 36 → ∃ D : Nat, D < 100 ∧ Y.1 36 = nI (D + 1)) (h : (zm_step Y (zq_x T n c)).1 30 = Y.1 27) : ∃ F : zm_M, F.1 30 = nI c ∧ zt Y F := by
  have hn := hT.1
  obtain ⟨hm, h30, h15, h32, h21, t, a, ht, h3, ha, h23⟩ := hY
  have e : (zm_fin (zm_step Y (zq_x T n c)) (zq_x T n c)).1 30 = nI c := by
    rw [zm_fin_1 (by decide) (by decide) (by decide), h, hm.2.2.1]
  obtain ⟨D, D1, D2⟩ : ∃ D : Nat, D < 100 ∧ (0 < Y.1 36 → Y.1 36 = nI (D + 1)) := by
    by_cases z : 0 < Y.1 36
    · obtain ⟨D, d1, d2⟩ := h36 z
      exact ⟨D, d1, fun _ => d2⟩
    · exact ⟨0, by omega, fun y => absurd y z⟩
  refine ⟨_, e, zt_step hT hm hc (by rw [h30]; exact zq_m1) (zm_ok_q (D := D) (by rw [h21]; exact hs) ht h3 ha h23 h15 hv D1 D2) (zt_stop (by rw [e]; exact nI_pos (by omega)))⟩
theorem zq_go2 (hT : zq_T T n) (hY : zq_e T n Y c v s q) (hs : s = 15 ∨ s = 16 ∨ s = 18 ∨ s = 19 ∨ s = 20) (hc : c ≤ n) (hv : v ≤ 60000) (h36 : 0 < Y.1 36 → ∃ D : Nat, D < 100 ∧ Y.1 36 = nI (D + 1)) {R : zm_M} (hR : zm_step Y (zq_x T n c) = R) {v' : Nat} {s' : Int32} (hf : zq_fr Y R v) (h15 : R.1 15 = nI v') (h21 : R.1 21 = s') (h27 : ∀ k : Nat, k = 27 ∨ k = 28 ∨ k = 29 → R.1 k = Y.1 k) : ∃ Z : zm_M, (∀ k : Nat, k ≠ 27 → k ≠ 28 → k ≠ 29 → Z.1 k = R.1 k) ∧ Z.2 = R.2 ∧ zq_e T n Z (c + 1) v' s' q ∧ zq_fr Y Z v ∧ (∀ F : zm_M, zt Z F → zt Y F) := by
  have hn := hT.1
  obtain ⟨hm, h30, h15', h32, h21', t, a, ht, h3, ha, h23⟩ := hY
  obtain ⟨f1, f2, f3, f4⟩ := hf
  have hmR : zq_mt T n R c := zq_mt_eq hm (fun k hk => by
    by_cases z : k = 2
    · subst z; exact f1 2 (by decide) (by decide) (by decide) (by decide) (by decide) (by decide)
    · exact h27 k (by omega)) (f2 1 (by decide))
  have g : ∀ k : Nat, k ≠ 27 → k ≠ 28 → k ≠ 29 → (zm_fin R (zq_x T n c)).1 k = R.1 k := fun k a b d => zm_fin_1 a b d
  obtain ⟨D, D1, D2⟩ : ∃ D : Nat, D < 100 ∧ (0 < Y.1 36 → Y.1 36 = nI (D + 1)) := by
    by_cases z : 0 < Y.1 36
    · obtain ⟨D, d1, d2⟩ := h36 z
      exact ⟨D, d1, fun _ => d2⟩
    · exact ⟨0, by omega, fun y => absurd y z⟩
  refine ⟨zm_fin R (zq_x T n c), g, zm_fin_2, ⟨zm_fin_at hmR, ?_, ?_, ?_, ?_, t, a, ht, ?_, ha, ?_⟩, ⟨fun k a b d e f i => ?_, fun r hr => ?_, fun i hi => ?_, ?_⟩, fun F hF => ?_⟩
  · rw [g 30 (by decide) (by decide) (by decide), f1 30 (by decide) (by decide) (by decide) (by decide) (by decide) (by decide)]; exact h30
  · rw [g 15 (by decide) (by decide) (by decide)]; exact h15
  · rw [g 32 (by decide) (by decide) (by decide), f1 32 (by decide) (by decide) (by decide) (by decide) (by decide) (by decide)]; exact h32
  · rw [g 21 (by decide) (by decide) (by decide)]; exact h21
  · rw [g 3 (by decide) (by decide) (by decide), f1 3 (by decide) (by decide) (by decide) (by decide) (by decide) (by decide)]; exact h3
  · rw [g 23 (by decide) (by decide) (by decide), f1 23 (by decide) (by decide) (by decide) (by decide) (by decide) (by decide)]; exact h23
  · rw [g k d e f, f1 k a b d e f i]
  · rw [zm_fin_2, f2 r hr]
  · rw [zm_fin_2, f3 i hi]
  · rw [zm_fin_2, f4]
  · refine zt_step hT hm hc (by rw [h30]; exact zq_m1) (zm_ok_q (D := D) (by rw [h21']; exact hs) ht h3 ha h23 h15' hv D1 D2) ?_
    rw [hR]
    exact hF
/-- a digit of an escape -/
theorem zm_step_n (hY : zq_e T n Y c v 15 q) (h33 : Y.1 33 = 0) {D : Nat} (h36 : Y.1 36 = nI (D + 1)) (hD : D < 100) (x : Int32) : zm_step Y x = zm_number2 Y x := by
  rw [zm_step_q (Or.inl hY.2.2.2.2.1)]
  unfold zm_quoted
  rw [if_neg (by rw [h33]; decide), if_pos (by rw [h36]; exact nI_lt (a := 0) (by omega) (by omega))]
end
