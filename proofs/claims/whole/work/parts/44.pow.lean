def zl_V (N : zc_N) : Nat := zl_seg N.2.2.1 0 (zk_used N)
def zl_G (N : zc_N) : Prop := zk_used N ≤ 16 ∧ N.1 12 = nI (zk_used N) ∧ ∀ j : Nat, j < zk_used N → uN (N.2.2.1 j) < 4294967296
theorem z_cmp0 (c : Int64) : lg_cmp c 0 = 0 ↔ c = 0 := by
  unfold lg_cmp
  by_cases h1 : c > 0
  · rw [if_pos h1]
    refine ⟨fun z => absurd z (by decide), fun z => ?_⟩
    rw [z] at h1
    exact absurd h1 (by decide)
  · rw [if_neg h1]
    by_cases h2 : c = 0
    · rw [if_pos h2]; exact ⟨fun _ => h2, fun _ => rfl⟩
    · rw [if_neg h2]; exact ⟨fun z => absurd z (by decide), fun z => absurd z h2⟩
theorem uN_0 (c : Int64) : uN c = 0 ↔ c = 0 := ⟨fun h => uN_inj (h.trans (show (0 : Nat) = uN 0 from rfl)), fun h => by rw [h]; rfl⟩
theorem zl_app {N : zc_N} (hG : zl_G N) {β x : Nat} (hβ : β ≤ 16) (hx : x < 65536) :
    (zk_appD N (nI β) (nI x) = 1 ∧ zl_G (zc_appD N (nI β) (nI x)) ∧ zl_V (zc_appD N (nI β) (nI x)) = β * zl_V N + x) ∨ (zk_appD N (nI β) (nI x) = 0 ∧ 2 ^ 512 ≤ β * zl_V N + x) := by
  obtain ⟨hu, h12, hf⟩ := hG
  have hxc : uN (nI x).toInt64 = x := by rw [nI_l (by omega), uN_lN (by omega)]
  obtain ⟨g1, g2, g3, g4⟩ := zl_mul hβ (zk_used N) 0 N (nI x).toInt64 (by omega) (by rw [hxc]; omega) (fun j _ h2 => hf j (by omega))
  rw [Nat.zero_add, Nat.mul_zero, Nat.pow_zero, Nat.mul_one, hxc] at g4
  have hL1 : (zc_appL N (nI β) (nI x)).1 = N.1 := (zc_lim_f _ _ _ _ _).1
  have hLu : zk_used (zc_appL N (nI β) (nI x)) = zk_used N := by unfold zk_used; rw [hL1]
  have hgL : zl_seg (zc_appL N (nI β) (nI x)).2.2.1 0 (zk_used N) + uN (zk_appC N (nI β) (nI x)) * 2 ^ (32 * zk_used N) = β * zl_V N + x := g4
  have hG2 : ∀ j : Nat, j < zk_used N → uN ((zc_appL N (nI β) (nI x)).2.2.1 j) < 4294967296 := fun j hj => g2 j (Nat.zero_le _) (by omega)
  by_cases h0 : lg_cmp (zk_appC N (nI β) (nI x)) 0 = 0
  · have hc0 : uN (zk_appC N (nI β) (nI x)) = 0 := (uN_0 _).mpr ((z_cmp0 _).mp h0)
    refine Or.inl ⟨?_, ?_⟩
    · unfold zk_appD
      rw [if_pos h0]
    · have e : zc_appD N (nI β) (nI x) = zc_appL N (nI β) (nI x) := by
        unfold zc_appD
        rw [if_pos h0]
      rw [e]
      refine ⟨⟨by rw [hLu]; exact hu, by rw [hL1, hLu]; exact h12, fun j hj => hG2 j (by rw [hLu] at hj; exact hj)⟩, ?_⟩
      unfold zl_V
      rw [hLu]
      rw [hc0, Nat.zero_mul, Nat.add_zero] at hgL
      exact hgL
  · by_cases h16 : N.1 12 < 16
    · have hu16 : zk_used N < 16 := by
        rw [h12] at h16
        exact z_lit (by omega) (by decide) h16
      have e : zc_appD N (nI β) (nI x) = zc_s (zc_l (zc_appL N (nI β) (nI x)) (N.1 12) (zk_appC N (nI β) (nI x))) 12 (N.1 12 + 1) := by
        unfold zc_appD
        rw [if_neg h0, if_pos h16]
      have hc12 : (N.1 12).toNatClampNeg = zk_used N := rfl
      have e12 : N.1 12 + 1 = nI (zk_used N + 1) := by
        rw [← nI_1, ← h12]
      have hu' : zk_used (zc_appD N (nI β) (nI x)) = zk_used N + 1 := by
        rw [e]
        show (N.1 12 + 1).toNatClampNeg = _
        rw [e12]
        exact nI_clamp (by omega)
      have hrow : ∀ j : Nat, (zc_appD N (nI β) (nI x)).2.2.1 j = if j = zk_used N then zk_appC N (nI β) (nI x) else (zc_appL N (nI β) (nI x)).2.2.1 j := by
        intro j
        rw [e]
        rfl
      refine Or.inl ⟨?_, ⟨by rw [hu']; omega, ?_, fun j hj => ?_⟩, ?_⟩
      · unfold zk_appD
        rw [if_neg h0, if_pos h16]
      · rw [hu', e]
        exact e12
      · rw [hu'] at hj
        rw [hrow]
        by_cases hje : j = zk_used N
        · rw [if_pos hje]
          exact g3
        · rw [if_neg hje]
          exact hG2 j (by omega)
      · unfold zl_V
        rw [hu', zl_seg_add]
        have s1 : zl_seg (zc_appD N (nI β) (nI x)).2.2.1 0 (zk_used N) = zl_seg (zc_appL N (nI β) (nI x)).2.2.1 0 (zk_used N) := zl_seg_eq _ _ (fun j _ h2 => by rw [hrow, if_neg (by omega)])
        rw [s1, Nat.zero_add]
        show _ + (uN ((zc_appD N (nI β) (nI x)).2.2.1 (zk_used N)) * 2 ^ (32 * zk_used N) + 0) = _
        rw [hrow, if_pos rfl, Nat.add_zero]
        exact hgL
    · have hu16 : zk_used N = 16 := by
        rw [h12] at h16
        rcases Nat.lt_or_ge (zk_used N) 16 with q | q
        · exact absurd (nI_lt q (by decide)) h16
        · omega
      refine Or.inr ⟨?_, ?_⟩
      · unfold zk_appD
        rw [if_neg h0, if_neg h16]
      · rw [← hgL, hu16]
        have hc1 : 1 ≤ uN (zk_appC N (nI β) (nI x)) := by
          rcases Nat.eq_zero_or_pos (uN (zk_appC N (nI β) (nI x))) with q | q
          · exact absurd ((z_cmp0 _).mpr ((uN_0 _).mp q)) h0
          · exact q
        have h3 : 1 * 2 ^ (32 * 16) ≤ uN (zk_appC N (nI β) (nI x)) * 2 ^ (32 * 16) := Nat.mul_le_mul_right _ hc1
        rw [Nat.one_mul] at h3
        exact Nat.le_trans h3 (Nat.le_add_left _ _)
/-- the number that digits x i .. make behind v -/
def zv_fold (x : Nat → Nat) (β : Nat) : Nat → Nat → Nat → Nat
  | 0, _, v => v
  | m + 1, i, v => zv_fold x β m (i + 1) (β * v + x i)
theorem zv_fold_le {x : Nat → Nat} {β : Nat} (hβ : 1 ≤ β) : ∀ (m i v : Nat), v ≤ zv_fold x β m i v := by
  intro m
  induction m with
  | zero => intro i v; exact Nat.le_refl _
  | succ m ih =>
    intro i v
    refine Nat.le_trans ?_ (ih (i + 1) (β * v + x i))
    have := Nat.mul_le_mul_right v hβ
    rw [Nat.one_mul] at this
    omega
theorem zl_pow {N : zc_N} {k : Int32} {β : Nat} (hβ : β ≤ 16) (hβ1 : 1 ≤ β) {x : Nat → Nat} : ∀ (m i : Nat) (X : zc_N), zl_G X → (X.2.1 = N.2.1 ∧ X.1 71 = N.1 71 ∧ X.1 1 = N.1 1) → (∀ j : Nat, i ≤ j → j < i + m → zk_dgt N k (nI β) j = nI (x j) ∧ x j < 65536) →
    (zk_pow k (nI β) m i X = 1 ∧ zl_G (zc_pow k (nI β) m i X) ∧ zl_V (zc_pow k (nI β) m i X) = zv_fold x β m i (zl_V X)) ∨ (zk_pow k (nI β) m i X = 0 ∧ 2 ^ 512 ≤ zv_fold x β m i (zl_V X)) := by
  intro m
  induction m with
  | zero => intro i X hG _ _; exact Or.inl ⟨rfl, hG, rfl⟩
  | succ m ih =>
    intro i X hG hX hd
    obtain ⟨hd1, hd2⟩ := hd i (Nat.le_refl _) (by omega)
    have hdX : zk_dgt X k (nI β) i = nI (x i) := by
      unfold zk_dgt at hd1 ⊢
      rw [zk_byteOf_eq hX.1 hX.2.1 hX.2.2]
      exact hd1
    rw [zk_pow_s rfl, zc_pow_s rfl, hdX]
    rcases zl_app hG hβ hd2 with ⟨a1, a2, a3⟩ | ⟨a1, a2⟩
    · rw [if_neg (by rw [a1]; decide), if_neg (by rw [a1]; decide)]
      have hX2 : (zc_appD X (nI β) (nI (x i))).2.1 = N.2.1 ∧ (zc_appD X (nI β) (nI (x i))).1 71 = N.1 71 ∧ (zc_appD X (nI β) (nI (x i))).1 1 = N.1 1 := ⟨zc_appD_b.1.trans hX.1, zc_appD_b.2.1.trans hX.2.1, zc_appD_b.2.2.trans hX.2.2⟩
      have := ih (i + 1) _ a2 hX2 (fun j h1 h2 => hd j (by omega) (by omega))
      rw [a3] at this
      exact this
    · rw [if_pos a1]
      exact Or.inr ⟨rfl, Nat.le_trans a2 (zv_fold_le hβ1 _ _ _)⟩
-- no bit from B on
theorem zl_dvd (f : Nat → Int64) : ∀ (m i : Nat), ∃ w : Nat, zl_seg f i m = 2 ^ (32 * i) * w := by
  intro m
  induction m with
  | zero => intro i; exact ⟨0, rfl⟩
  | succ m ih =>
    intro i
    obtain ⟨w, hw⟩ := ih (i + 1)
    refine ⟨uN (f i) + 4294967296 * w, ?_⟩
    show uN (f i) * 2 ^ (32 * i) + zl_seg f (i + 1) m = _
    rw [hw, z_p32, Nat.mul_add, Nat.mul_comm (uN (f i)), Nat.mul_comm 4294967296 (2 ^ (32 * i)), Nat.mul_assoc]
theorem zl_none {N : zc_N} : ∀ (m i : Nat), i + m ≤ 1000 → (zk_nobit N m i 0 = 1 ∧ zl_seg N.2.2.1 i m = 0) ∨ (zk_nobit N m i 0 = 0 ∧ 2 ^ (32 * i) ≤ zl_seg N.2.2.1 i m) := by
  intro m
  induction m with
  | zero => intro i _; exact Or.inl ⟨rfl, rfl⟩
  | succ m ih =>
    intro i hi
    have hs : uN (zk_shr (N.2.2.1 (nI i).toNatClampNeg) 0) = uN (N.2.2.1 i) := by
      unfold zk_shr
      rw [show (0 : Int32) = nI 0 from rfl, uN_sk _ (by decide), nI_clamp (by omega), Nat.pow_zero, Nat.div_one]
    have hseg : zl_seg N.2.2.1 i (m + 1) = uN (N.2.2.1 i) * 2 ^ (32 * i) + zl_seg N.2.2.1 (i + 1) m := rfl
    have hp := Nat.two_pow_pos (32 * i)
    rw [zk_nobit_s rfl, hseg]
    by_cases h0 : lg_cmp (zk_shr (N.2.2.1 (nI i).toNatClampNeg) 0) 0 = 0
    · have h1 : uN (N.2.2.1 i) = 0 := by rw [← hs]; exact (uN_0 _).mpr ((z_cmp0 _).mp h0)
      rw [if_pos h0, h1, Nat.zero_mul, Nat.zero_add]
      rcases ih (i + 1) (by omega) with ⟨a, b⟩ | ⟨a, b⟩
      · exact Or.inl ⟨a, b⟩
      · refine Or.inr ⟨a, Nat.le_trans ?_ b⟩
        rw [z_p32]
        omega
    · rw [if_neg h0]
      refine Or.inr ⟨rfl, ?_⟩
      have h1 : 1 ≤ uN (N.2.2.1 i) := by
        rcases Nat.eq_zero_or_pos (uN (N.2.2.1 i)) with q | q
        · exact absurd ((z_cmp0 _).mpr ((uN_0 _).mp (hs.trans q))) h0
        · exact q
      have h2 := Nat.mul_le_mul_right (2 ^ (32 * i)) h1
      omega
theorem zl_hasNo {N : zc_N} (hG : zl_G N) {B : Nat} (hB : B ≤ 512) : zk_hasNo N B = if zl_V N < 2 ^ B then 1 else 0 := by
  obtain ⟨hu, -, hf⟩ := hG
  have hBe : B = 32 * (B / 32) + B % 32 := by omega
  unfold zk_hasNo zl_V
  generalize hk : B / 32 = k at *
  generalize hr : B % 32 = r at *
  have hr32 : r < 32 := by omega
  have hpB : 2 ^ B = 2 ^ (32 * k) * 2 ^ r := by rw [hBe, Nat.pow_add]
  have hpk := Nat.two_pow_pos (32 * k)
  have hpr := Nat.two_pow_pos r
  rcases Nat.lt_or_ge k (zk_used N) with hku | hku
  · have hsplit : zl_seg N.2.2.1 0 (zk_used N) = zl_seg N.2.2.1 0 k + zl_seg N.2.2.1 k (zk_used N - k) := by
      have := zl_seg_add N.2.2.1 k 0 (zk_used N - k)
      rw [show k + (zk_used N - k) = zk_used N by omega, Nat.zero_add] at this
      exact this
    have hlow := zl_seg_lt (f := N.2.2.1) k 0 (fun j _ h2 => hf j (by omega))
    rw [Nat.mul_zero, Nat.pow_zero, Nat.zero_add] at hlow
    obtain ⟨m, hm⟩ : ∃ m, zk_used N - k = m + 1 := ⟨zk_used N - k - 1, by omega⟩
    rw [hm] at hsplit
    have hseg : zl_seg N.2.2.1 k (m + 1) = uN (N.2.2.1 k) * 2 ^ (32 * k) + zl_seg N.2.2.1 (k + 1) m := rfl
    have hs : uN (zk_shr (N.2.2.1 (nI k).toNatClampNeg) (nI r)) = uN (N.2.2.1 k) / 2 ^ r := by
      unfold zk_shr
      rw [uN_sk _ (by omega), nI_clamp (by omega)]
    rw [hm, zk_nobit_s rfl, hsplit, hseg, hpB]
    generalize zl_seg N.2.2.1 0 k = lo at *
    by_cases h0 : lg_cmp (zk_shr (N.2.2.1 (nI k).toNatClampNeg) (nI r)) 0 = 0
    · have h1 : uN (N.2.2.1 k) < 2 ^ r := by
        have h9 : uN (N.2.2.1 k) / 2 ^ r = 0 := by rw [← hs]; exact (uN_0 _).mpr ((z_cmp0 _).mp h0)
        rcases Nat.lt_or_ge (uN (N.2.2.1 k)) (2 ^ r) with q | q
        · exact q
        · exact absurd (Nat.div_pos q hpr) (by omega)
      have h2 : (uN (N.2.2.1 k) + 1) * 2 ^ (32 * k) ≤ 2 ^ r * 2 ^ (32 * k) := Nat.mul_le_mul_right _ h1
      rw [Nat.add_mul, Nat.one_mul, Nat.mul_comm (2 ^ r)] at h2
      rw [if_pos h0]
      rcases zl_none (N := N) m (k + 1) (by omega) with ⟨a, b⟩ | ⟨a, b⟩
      · rw [a, b, if_pos (by omega)]
      · rw [a, if_neg]
        rw [z_p32] at b
        have h3 : 2 ^ (32 * k) * 2 ^ r ≤ 2 ^ (32 * k) * 4294967296 := Nat.mul_le_mul_left _ (Nat.le_trans (z_pw (show r ≤ 32 by omega)) (by decide))
        rw [Nat.mul_comm _ 4294967296] at h3
        omega
    · have h1 : 2 ^ r ≤ uN (N.2.2.1 k) := by
        rcases Nat.lt_or_ge (uN (N.2.2.1 k)) (2 ^ r) with q | q
        · exact absurd ((z_cmp0 _).mpr ((uN_0 _).mp (hs.trans (Nat.div_eq_of_lt q)))) h0
        · exact q
      have h2 : 2 ^ r * 2 ^ (32 * k) ≤ uN (N.2.2.1 k) * 2 ^ (32 * k) := Nat.mul_le_mul_right _ h1
      rw [Nat.mul_comm (2 ^ r)] at h2
      rw [if_neg h0, if_neg (by omega)]
  · rw [zk_nobit_z (by omega), if_pos]
    have hlow := zl_seg_lt (f := N.2.2.1) (zk_used N) 0 (fun j _ h2 => hf j (by omega))
    rw [Nat.mul_zero, Nat.pow_zero, Nat.zero_add] at hlow
    have h3 : 2 ^ (32 * zk_used N) ≤ 2 ^ B := z_pw (by omega)
    omega
