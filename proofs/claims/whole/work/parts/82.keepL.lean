/-! Between the calls: what the law's loop keeps. -/
theorem zc_appD_f {N : zc_N} {b dg : Int32} : (∀ j : Nat, j ≠ 12 → (zc_appD N b dg).1 j = N.1 j) ∧ (zc_appD N b dg).2.1 = N.2.1 ∧ (zc_appD N b dg).2.2.2 = N.2.2.2 := by
  have h := zc_lim_f b (zk_used N) 0 N dg.toInt64
  have e : zc_appL N b dg = zc_lim b (zk_used N) 0 N dg.toInt64 := rfl
  unfold zc_appD
  rw [e]
  generalize zc_lim b (zk_used N) 0 N dg.toInt64 = X at h
  obtain ⟨h1, h2, h3⟩ := h
  split
  · exact ⟨fun j _ => by rw [h1], h2, h3⟩
  · split
    · refine ⟨fun j hj => ?_, h2, h3⟩
      show upd X.1 12 _ j = _
      rw [zq_upd, if_neg hj, h1]
    · exact ⟨fun j _ => by rw [h1], h2, h3⟩
theorem zc_pow_f {k b : Int32} : ∀ (m i : Nat) (N : zc_N), (∀ j : Nat, j ≠ 12 → (zc_pow k b m i N).1 j = N.1 j) ∧ (zc_pow k b m i N).2.1 = N.2.1 ∧ (zc_pow k b m i N).2.2.2 = N.2.2.2 := by
  intro m
  induction m with
  | zero => intro i N; exact ⟨fun _ _ => rfl, rfl, rfl⟩
  | succ m ih =>
    intro i N
    rw [zc_pow_s rfl]
    obtain ⟨a1, a2, a3⟩ := zc_appD_f (N := N) (b := b) (dg := zk_dgt N k b i)
    split
    · exact ⟨a1, a2, a3⟩
    · obtain ⟨b1, b2, b3⟩ := ih (i + 1) (zc_appD N b (zk_dgt N k b i))
      exact ⟨fun j hj => (b1 j hj).trans (a1 j hj), b2.trans a2, b3.trans a3⟩
theorem zc_below_f {N : zc_N} {k : Int32} : (∀ j : Nat, j ≠ 12 → (zc_below N k).1 j = N.1 j) ∧ (zc_below N k).2.1 = N.2.1 ∧ (zc_below N k).2.2.2 = N.2.2.2 := by
  unfold zc_below
  obtain ⟨b1, b2, b3⟩ := zc_pow_f (k := k) (b := zk_fact N k 7) ((zk_fact N k 8).toNatClampNeg - (zk_fd N k).toNatClampNeg) (zk_fd N k).toNatClampNeg (zc_s N 12 0)
  refine ⟨fun j hj => (b1 j hj).trans ?_, b2, b3⟩
  show upd N.1 12 0 j = _
  rw [zq_upd, if_neg hj]
theorem zp_R_below {N : zc_N} {M Y : zm_M} {n t k : Nat} (h : zp_R N M n t k) (x : Int32) (h1 : ∀ j : Nat, j ≠ 0 → Y.1 j = M.1 j) (h2 : ∀ a : Nat, a ≠ 43 → Y.2.1 a = M.2.1 a) (h3 : Y.2.2 = M.2.2) : zp_R (zc_below N x) Y n t k := by
  obtain ⟨hI, ⟨n1, n2, n3⟩, ⟨t1, t2, t3, t4⟩, k1, k2, k3, k4⟩ := h
  obtain ⟨b1, b2, b3⟩ := zc_below_f (N := N) (k := x)
  refine ⟨zi_below hI x, ⟨?_, ?_, fun i hi => ?_⟩, ⟨?_, ?_, t3, fun j hj => zp_tok_eq (t4 j hj) (by rw [b2]) (by rw [b2]) (b1 71 (by decide)) (b1 1 (by decide)) (fun a _ ha => h2 a ha) h3⟩, ?_, ?_, k3, fun j hj => ?_⟩
  · rw [b1 61 (by decide)]; exact n1
  · rw [h1 2 (by decide)]; exact n2
  · rw [b2, h2 1 (by decide)]; exact n3 i hi
  · rw [b1 71 (by decide)]; exact t1
  · rw [h1 3 (by decide)]; exact t2
  · rw [b1 24 (by decide)]; exact k1
  · rw [h1 17 (by decide)]; exact k2
  · rw [b2, h2 18 (by decide)]; exact k4 j hj
theorem zh.below {N : zc_N} {k : Int32} : zh N (zc_below N k) := ⟨zc_below_f.1 24 (by decide), by rw [zc_below_f.2.1]⟩
theorem zL_below {N : zc_N} {k : Int32} : zc_L (zc_below N k) = zc_L N := by
  unfold zc_L
  rw [zc_below_f.2.2]
theorem zh.put1 {N : zc_N} {v : Int32} : zh N (zc_put N v) := (zh.a (by decide)).tr (zh.s (by decide))
theorem zh.four {N : zc_N} {v : Int32} : zh N (zc_four N v) := by
  unfold zc_four
  split
  · split
    · split
      · split
        · exact ((zh.put1.tr zh.put1).tr zh.put1).tr zh.put1
        · exact (zh.put1.tr zh.put1).tr zh.put1
      · exact zh.put1.tr zh.put1
    · exact zh.put1
  · exact zh.rf
theorem zh.feed {N : zc_N} {a b c d e : Int32} : zh N (zc_feed N a b c d e) := by
  have hm : zh N (zc_makeRoom N 20) := by
    unfold zc_makeRoom
    split
    · exact zh.rf
    · split
      · exact zh.g (by decide)
      · exact zh.rf
  unfold zc_feed
  split
  · exact hm
  · exact ((((hm.tr zh.four).tr zh.four).tr zh.four).tr zh.four).tr zh.four
theorem zh.cut {N : zc_N} {x : Int32} : zh N (zc_cutTo N x) := by
  unfold zc_cutTo
  split
  · exact zh.rf
  · exact zh.s (by decide)
/-- class and reference agree, j calls made -/
def zl_R (N : zc_N) (M : zm_M) (j : Nat) : Prop := (∃ n t k : Nat, zp_R N M n t k ∧ n ≤ 20 * j) ∧ zq_hd N
theorem zl_R0 : zl_R zc_N0 zm_M0 0 := by
  refine ⟨⟨0, 0, 0, ⟨?_, ⟨rfl, rfl, fun i hi => absurd hi (Nat.not_lt_zero i)⟩, ⟨rfl, rfl, by omega, fun j hj => absurd hj (Nat.not_lt_zero j)⟩, rfl, rfl, Nat.le_refl _, fun j hj => absurd hj (Nat.not_lt_zero j)⟩, by omega⟩, fun _ h hh => ?_⟩
  · refine ⟨⟨⟨0, by omega, rfl⟩, ⟨0, by omega, rfl⟩, ⟨0, by omega, rfl⟩, ⟨0, by omega, rfl, rfl, rfl⟩⟩, ⟨0, rfl, Nat.zero_le _⟩, ⟨0, rfl, Nat.zero_le _, by omega⟩, ⟨0, rfl, Nat.zero_le _⟩, ⟨0, 0, rfl, rfl, Nat.le_refl _, by omega, Nat.zero_le _⟩, ⟨0, rfl, by omega⟩, fun i => rfl, fun i => rfl⟩
  · show (if h < 512 then (-1 : Int32) else 0) = -1
    rw [if_pos hh]
theorem zl_R.same {N : zc_N} {M : zm_M} {j : Nat} (h : zl_R N M j) (v : Int32) : zl_R N (zm_s M 0 v) (j + 1) := by
  obtain ⟨⟨n, t, k, h1, h2⟩, h3⟩ := h
  exact ⟨⟨n, t, k, zp_0 h1 v, by omega⟩, h3⟩
theorem zm_s00 {M : zm_M} {v w : Int32} : zm_s (zm_s M 0 v) 0 w = zm_s M 0 w := zm_ext (fun j => by
  show upd (upd M.1 0 v) 0 w j = upd M.1 0 w j
  rw [zq_upd, zq_upd, zq_upd]
  split <;> rfl) rfl
theorem zm_tok_s {M : zm_M} {k w : Int32} : (k < 0 ∨ ¬ k < M.1 3 ∨ w < 0 ∨ 8 < w) ∧ zm_tok M k w = zm_s M 0 1 ∨ ¬ (k < 0 ∨ ¬ k < M.1 3 ∨ w < 0 ∨ 8 < w) ∧ zm_tok M k w = zm_s M 0 0 := by
  unfold zm_tok zm_fail zm_0
  by_cases z : k < 0 ∨ ¬ k < M.1 3 ∨ w < 0 ∨ 8 < w
  · rw [if_pos z]; exact Or.inl ⟨z, zm_s00⟩
  · rw [if_neg z]; exact Or.inr ⟨z, rfl⟩
theorem zm_byt_s {M : zm_M} {k i : Int32} : (k < 0 ∨ ¬ k < M.1 3 ∨ i < 0 ∨ ¬ i < M.2.1 13 k.toNatClampNeg) ∧ zm_byteOf M k i = zm_s M 0 1 ∨ ¬ (k < 0 ∨ ¬ k < M.1 3 ∨ i < 0 ∨ ¬ i < M.2.1 13 k.toNatClampNeg) ∧ zm_byteOf M k i = zm_s M 0 0 := by
  unfold zm_byteOf zm_fail zm_0
  by_cases z : k < 0 ∨ ¬ k < M.1 3 ∨ i < 0 ∨ ¬ i < M.2.1 13 k.toNatClampNeg
  · rw [if_pos z]; exact Or.inl ⟨z, zm_s00⟩
  · rw [if_neg z]; exact Or.inr ⟨z, rfl⟩
theorem zm_num_s {M : zm_M} {k : Int32} : (k < 0 ∨ ¬ k < M.1 3 ∨ (¬ M.2.1 4 k.toNatClampNeg = 2 ∧ ¬ M.2.1 4 k.toNatClampNeg = 4)) ∧ zm_num M k = zm_s M 0 1 ∨ ¬ (k < 0 ∨ ¬ k < M.1 3 ∨ (¬ M.2.1 4 k.toNatClampNeg = 2 ∧ ¬ M.2.1 4 k.toNatClampNeg = 4)) ∧ zm_num M k = zm_s M 0 0 := by
  unfold zm_num zm_fail zm_0
  by_cases z : k < 0 ∨ ¬ k < M.1 3 ∨ (¬ M.2.1 4 k.toNatClampNeg = 2 ∧ ¬ M.2.1 4 k.toNatClampNeg = 4)
  · rw [if_pos z]; exact Or.inl ⟨z, zm_s00⟩
  · rw [if_neg z]; exact Or.inr ⟨z, rfl⟩
theorem zm_fb_f {M : zm_M} {k : Int32} {p e B : Nat} : (zm_fb M k p e B).1 = M.1 ∧ (∀ a : Nat, a ≠ 43 → (zm_fb M k p e B).2.1 a = M.2.1 a) ∧ (zm_fb M k p e B).2.2 = M.2.2 := by
  unfold zm_fb
  split
  · exact ⟨rfl, fun _ _ => rfl, rfl⟩
  · split
    · unfold zm_below
      split
      · exact ⟨rfl, fun _ _ => rfl, rfl⟩
      · unfold zm_tab
        refine ⟨rfl, fun a ha => ?_, rfl⟩
        show (if a = 43 then _ else M.2.1 a) = _
        rw [if_neg ha]
    · exact ⟨rfl, fun _ _ => rfl, rfl⟩
