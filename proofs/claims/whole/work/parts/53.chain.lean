/-! A name's number: found along both chains. -/
theorem zk_fact_at {N : zc_N} {t k w : Nat} (h : N.1 71 = nI t) (ht : t ≤ 16384) (hk : k < t) (hw : w < 11) (l : Int32) (hl : nI w = l) : zk_fact N (nI k) l = N.2.1 70 (k * 11 + w) := by
  have e2 : zk_has N (nI k) = 1 := by unfold zk_has; rw [h, if_neg (fun z => by rcases z with z | z; exact nI_pos (by omega) z; exact z (nI_lt (by omega) (by omega)))]
  subst hl
  have h11 : nI w < 11 := nI_lt hw (by decide)
  unfold zk_fact
  rw [e2, if_pos ⟨by decide, nI_pos (by omega), h11⟩, z_mul11, nI_add, nI_clamp (by omega)]
theorem zk_byteAt_at {N : zc_N} {u i : Nat} (h : N.1 1 = nI u) (hu : u ≤ 60000) (hi : i < u) : zk_byteAt N (nI i) = N.2.1 0 i &&& 255 := by
  unfold zk_byteAt
  rw [h, if_pos ⟨nI_pos (by omega), nI_lt hi (by omega)⟩, nI_clamp (by omega)]
def zq_P (T : Nat → Int32) (Q W : Nat → Nat) (a w j : Nat) : Prop := W j = w ∧ ∀ i : Nat, i < w → T (Q j + i) &&& 255 = T (a + i) &&& 255
theorem zq_h1_eq {T : Nat → Int32} {q a : Nat} : ∀ w : Nat, (∀ i : Nat, i < w → T (q + i) &&& 255 = T (a + i) &&& 255) → zq_h1 T q w = zq_h1 T a w := by
  intro w
  induction w with
  | zero => intro _; rfl
  | succ w ih =>
    intro h
    show zq_h1 T q w * 31 + (T (q + w) &&& 255) = zq_h1 T a w * 31 + (T (a + w) &&& 255)
    rw [ih fun i hi => h i (by omega), h w (by omega)]
theorem zq_h2_eq {T : Nat → Int32} {q a w : Nat} (hw : 1 ≤ w) (h : ∀ i : Nat, i < w → T (q + i) &&& 255 = T (a + i) &&& 255) : zq_h2 T q w = zq_h2 T a w := by
  have e1 := h 0 (by omega)
  have e2 := h (w - 1) (by omega)
  have e3 := h (w / 2) (by omega)
  rw [Nat.add_zero, Nat.add_zero] at e1
  unfold zq_h2
  rw [e1, e2, e3]
section
variable {T : Nat → Int32} {n : Nat} {Z : zc_N} {V : zm_M} {t k u w a : Nat} {Q W : Nat → Nat}
theorem zk_hit_at (hT : zq_T T n) (hD : zq_D T n Z V t k u) (hN : ∀ j : Nat, j < k → zq_nj T n Z V t u Q W j) {s : Nat} (hs : s + w ≤ u) (hb : ∀ i : Nat, i < w → Z.2.1 0 (s + i) = T (a + i)) {j : Nat} (hj : j < k) : zk_hit Z (nI s) (nI w) (zq_h1 T a w) (nI j) ↔ zq_P T Q W a w j := by
  have hn := hT.1
  obtain ⟨d1, d2, d3, ⟨⟨d4, d5, d6, d7, d8, d9⟩, d10, d11⟩, ⟨n1, n2, n3, n4⟩, d12⟩ := hD
  obtain ⟨f, p, f1, f2, f3, f4, f5, f6, f7, f8, f9, f10, f11, f12⟩ := hN j hj
  have hl := zc_len d1 23 (by decide)
  have hkl : k ≤ Z.2.2.2 23 := by
    obtain ⟨k', t', e1, -, -, e4, e5⟩ := d1.2.2.2.2.1
    have : k' = k := z_injC (by omega) (by omega) (e1.symm.trans n1)
    omega
  have e1 : zk_first Z (nI j) = nI f := by
    unfold zk_first
    rw [n1, if_pos ⟨nI_pos (by omega), nI_lt hj (by omega), nI_lt (by omega) (by omega)⟩, nI_clamp (by omega), f2]
  obtain ⟨⟨t0, t1, t2, t3, t4, t5, t6, t7, t8, t9⟩, -, -, -⟩ := d6 f f1
  have e8 : zk_fact Z (nI f) 8 = nI (W j) := by rw [zk_fact_at (w := 8) d4 d10 f1 (by decide) 8 rfl, t8, f9]
  have e9 : zk_fact Z (nI f) 9 = nI p := by rw [zk_fact_at (w := 9) d4 d10 f1 (by decide) 9 rfl, t9, f8]
  have hp : ∀ i : Nat, i < W j → zk_byteAt Z (nI p + nI i) = T (Q j + i) &&& 255 := by
    intro i hi
    rw [nI_add, zk_byteAt_at d7 d11 (by omega), d9 _ (by omega), f11 i hi]
  have hq : ∀ i : Nat, i < w → zk_byteAt Z (nI s + nI i) = T (a + i) &&& 255 := by
    intro i hi
    rw [nI_add, zk_byteAt_at d7 d11 (by omega), hb i hi]
  have eq : W j = w → (¬ zk_equal Z (nI p) (nI s) (nI w) = 0 ↔ ∀ i : Nat, i < w → T (Q j + i) &&& 255 = T (a + i) &&& 255) := by
    intro hw
    unfold zk_equal
    rw [nI_clamp (by omega)]
    constructor
    · intro h i hi
      by_cases c : ∀ i : Nat, i < w → zk_byteAt Z (nI p + nI i) = zk_byteAt Z (nI s + nI i)
      · have := c i hi
        rw [hp i (by omega), hq i hi] at this
        exact this
      · rw [if_neg c] at h
        exact absurd rfl h
    · intro h
      rw [if_pos]
      · decide
      · intro i hi
        rw [hp i (by omega), hq i hi]
        exact h i hi
  unfold zk_hit zq_P
  rw [nI_clamp (by omega), e1, e8, e9, f12]
  constructor
  · rintro ⟨h1, h2, h3⟩
    have hw : W j = w := z_injC (by omega) (by omega) h2
    exact ⟨hw, (eq hw).mp h3⟩
  · rintro ⟨h1, h2⟩
    refine ⟨?_, by rw [h1], (eq h1).mpr h2⟩
    rw [h1]
    exact zq_h1_eq w h2
theorem zk_found_at (hT : zq_T T n) (hD : zq_D T n Z V t k u) (hN : ∀ j : Nat, j < k → zq_nj T n Z V t u Q W j) (hC : zq_ch T Z V k Q W) {s : Nat} (hs : s + w ≤ u) (hb : ∀ i : Nat, i < w → Z.2.1 0 (s + i) = T (a + i)) [DecidablePred (zq_P T Q W a w)] (h512 : zq_b1 T a w < 512) : zk_find Z (nI s) (nI w) (zq_h1 T a w) k (Z.2.1 20 (zq_h1 T a w &&& 511).toNatClampNeg) = zq_lp (zq_P T Q W a w) k := by
  have hn := hT.1
  obtain ⟨c1, c2, -, -⟩ := hC
  have n1 := hD.2.2.2.2.1.1
  have hkt := hD.2.2.2.2.1.2.2.1
  have ht := hD.2.2.2.1.2.1
  have hl := zc_len hD.1 23 (by decide)
  have hl3 := zc_len3 hD.1
  have hkl : k ≤ Z.2.2.2 23 := by
    obtain ⟨k', t', e1, -, -, e4, e5⟩ := hD.1.2.2.2.2.1
    have : k' = k := z_injC (by omega) (by omega) (e1.symm.trans n1)
    omega
  have hin : ∀ j : Nat, j < k → ¬ nI j < 0 ∧ nI j < nI (Z.2.2.2 22) ∧ nI j < nI (Z.2.2.2 21) := fun j hj => ⟨nI_pos (by omega), nI_lt (by omega) (by omega), nI_lt (by omega) (by omega)⟩
  have e0 : Z.2.1 20 (zq_h1 T a w &&& 511).toNatClampNeg = zq_last (fun j => zq_b1 T (Q j) (W j)) (zq_b1 T a w) k := c1 _ h512
  rw [e0]
  have key := zq_walk (fun j => zq_b1 T (Q j) (W j)) (zq_b1 T a w) (fun j => j < k ∧ zq_P T Q W a w j) (fun j hj => ?_) (fun x y => ∀ m : Nat, (x < 0 ∨ ∃ j : Nat, x = nI j ∧ j < m) → zk_find Z (nI s) (nI w) (zq_h1 T a w) m x = y) ?_ ?_ k ?_ k (Nat.le_refl _)
  · have e1 := key k (by
      rcases (zq_last_lt (fun j => zq_b1 T (Q j) (W j)) (zq_b1 T a w) k (by omega)).2 with z | ⟨j, z1, z2, -⟩
      · exact Or.inl z
      · exact Or.inr ⟨j, z2, z1⟩)
    rw [e1]
    have : ∀ m : Nat, m ≤ k → zq_lp (fun j => j < k ∧ zq_P T Q W a w j) m = zq_lp (zq_P T Q W a w) m := by
      intro m
      induction m with
      | zero => intro _; rfl
      | succ m ih =>
        intro hm
        show (if m < k ∧ zq_P T Q W a w m then nI m else zq_lp _ m) = (if zq_P T Q W a w m then nI m else zq_lp _ m)
        rw [ih (by omega)]
        by_cases c : zq_P T Q W a w m
        · rw [if_pos c, if_pos ⟨by omega, c⟩]
        · rw [if_neg c, if_neg (fun z => c z.2)]
    exact this k (Nat.le_refl _)
  · obtain ⟨-, p1, p2⟩ := hj
    show zq_b1 T (Q j) (W j) = zq_b1 T a w
    unfold zq_b1
    rw [p1, zq_h1_eq w p2]
  · intro m _
    cases m with
    | zero => rfl
    | succ m =>
      show (if ¬ (-1 : Int32) < 0 ∧ _ then _ else (-1 : Int32)) = -1
      rw [if_neg (fun z => z.1 (by decide))]
  · rintro j ⟨hj, hp⟩ m hm
    obtain ⟨j2, x1, x2⟩ : ∃ j2 : Nat, nI j = nI j2 ∧ j2 < m := by
      rcases hm with z | z
      · exact absurd z (nI_pos (by omega))
      · exact z
    cases m with
    | zero => omega
    | succ m =>
      show (if ¬ nI j < 0 ∧ nI j < nI (Z.2.2.2 22) ∧ nI j < nI (Z.2.2.2 21) then (if zk_hit Z (nI s) (nI w) (zq_h1 T a w) (nI j) then nI j else _) else (-1 : Int32)) = nI j
      rw [if_pos (hin j hj), if_pos ((zk_hit_at hT hD hN hs hb hj).mpr hp)]
  · intro j y hj hp ih m hm
    obtain ⟨j2, x1, x2⟩ : ∃ j2 : Nat, nI j = nI j2 ∧ j2 < m := by
      rcases hm with z | z
      · exact absurd z (nI_pos (by omega))
      · exact z
    cases m with
    | zero => omega
    | succ m =>
      show (if ¬ nI j < 0 ∧ nI j < nI (Z.2.2.2 22) ∧ nI j < nI (Z.2.2.2 21) then (if zk_hit Z (nI s) (nI w) (zq_h1 T a w) (nI j) then nI j else zk_find Z (nI s) (nI w) (zq_h1 T a w) m (Z.2.1 21 (nI j).toNatClampNeg)) else (-1 : Int32)) = y
      rw [if_pos (hin j hj), if_neg (fun z => hp ⟨hj, (zk_hit_at hT hD hN hs hb hj).mp z⟩), nI_clamp (by omega), c2 j hj]
      refine ih m ?_
      rcases (zq_last_lt (fun j => zq_b1 T (Q j) (W j)) (zq_b1 T (Q j) (W j)) j (by omega)).2 with z | ⟨j3, z1, z2, -⟩
      · exact Or.inl z
      · by_cases hjm : j < 2 ^ 31
        · rcases Nat.lt_or_ge j2 (2 ^ 31) with q | q
          · have : j = j2 := z_injC (by omega) q x1
            exact Or.inr ⟨j3, z2, by omega⟩
          · exact Or.inr ⟨j3, z2, by omega⟩
        · omega
theorem zr_same_at (hT : zq_T T n) {b : Nat} (hm : zq_mt T n V b) (hN : ∀ j : Nat, j < k → zq_nj T n Z V t u Q W j) (ht : t ≤ 16384) (h27 : V.1 27 - V.1 23 = nI w) (h23 : V.1 23 = nI a) (hw : a + w ≤ n) {j : Nat} (hj : j < k) : ¬ zr_same V (V.2.1 18 j) = 0 ↔ zq_P T Q W a w j := by
  have hn := hT.1
  obtain ⟨f, p, f1, f2, f3, f4, f5, f6, f7, f8, f9, f10, f11, f12⟩ := hN j hj
  have hx : ∀ i : Nat, i < n → zq_x T n i = T i &&& 255 := fun i hi => by unfold zq_x; rw [if_pos hi]
  unfold zr_same zq_P
  rw [f3, nI_clamp (by omega), f5, f4, h27, h23, nI_clamp (by omega)]
  constructor
  · intro h
    by_cases c : nI (W j) = nI w ∧ ∀ i : Nat, i < W j → zr_byteAt V (nI (Q j) + nI i) = zr_byteAt V (nI a + nI i)
    · have hw2 : W j = w := z_injC (by omega) (by omega) c.1
      refine ⟨hw2, fun i hi => ?_⟩
      have := c.2 i (by omega)
      rw [nI_add, nI_add, zr_byteAt_at hT hm (by omega), zr_byteAt_at hT hm (by omega), hx _ (by omega), hx _ (by omega)] at this
      exact this
    · rw [if_neg c] at h
      exact absurd rfl h
  · rintro ⟨h1, h2⟩
    rw [if_pos]
    · decide
    · refine ⟨by rw [h1], fun i hi => ?_⟩
      rw [nI_add, nI_add, zr_byteAt_at hT hm (by omega), zr_byteAt_at hT hm (by omega), hx _ (by omega), hx _ (by omega)]
      exact h2 i (by omega)
theorem zr_chain_at (hT : zq_T T n) {b : Nat} (hm : zq_mt T n V b) (hD : zq_D T n Z V t k u) (hN : ∀ j : Nat, j < k → zq_nj T n Z V t u Q W j) (hC : zq_ch T Z V k Q W) (h27 : V.1 27 - V.1 23 = nI w) (h23 : V.1 23 = nI a) (hw : a + w ≤ n) [DecidablePred (zq_P T Q W a w)] (h4096 : zq_b2 T a w < 4096) (hw1 : 1 ≤ w) (hh : zr_hash V = zq_h2 T a w) : zr_chain V zr_F (V.2.1 20 (zr_hash V).toNatClampNeg) = zq_lp (zq_P T Q W a w) k := by
  have hn := hT.1
  obtain ⟨-, -, c1, c2⟩ := hC
  have hkt := hD.2.2.2.2.1.2.2.1
  have ht := hD.2.2.2.1.2.1
  have e0 : V.2.1 20 (zr_hash V).toNatClampNeg = zq_last (fun j => zq_b2 T (Q j) (W j)) (zq_b2 T a w) k := by
    rw [hh]
    exact c1 _ h4096
  rw [e0]
  have key := zq_walk (fun j => zq_b2 T (Q j) (W j)) (zq_b2 T a w) (fun j => j < k ∧ zq_P T Q W a w j) (fun j hj => ?_) (fun x y => ∀ m : Nat, (x < 0 ∨ ∃ j : Nat, x = nI j ∧ j < m) → zr_chain V m x = y) ?_ ?_ k ?_ k (Nat.le_refl _)
  · have e1 := key zr_F (by
      rcases (zq_last_lt (fun j => zq_b2 T (Q j) (W j)) (zq_b2 T a w) k (by omega)).2 with z | ⟨j, z1, z2, -⟩
      · exact Or.inl z
      · refine Or.inr ⟨j, z2, ?_⟩
        unfold zr_F
        omega)
    rw [e1]
    have : ∀ m : Nat, m ≤ k → zq_lp (fun j => j < k ∧ zq_P T Q W a w j) m = zq_lp (zq_P T Q W a w) m := by
      intro m
      induction m with
      | zero => intro _; rfl
      | succ m ih =>
        intro hm
        show (if m < k ∧ zq_P T Q W a w m then nI m else zq_lp _ m) = (if zq_P T Q W a w m then nI m else zq_lp _ m)
        rw [ih (by omega)]
        by_cases c : zq_P T Q W a w m
        · rw [if_pos c, if_pos ⟨by omega, c⟩]
        · rw [if_neg c, if_neg (fun z => c z.2)]
    exact this k (Nat.le_refl _)
  · obtain ⟨-, p1, p2⟩ := hj
    show zq_b2 T (Q j) (W j) = zq_b2 T a w
    unfold zq_b2
    rw [p1, zq_h2_eq hw1 p2]
  · intro m _
    cases m with
    | zero => rfl
    | succ m =>
      show (if ¬ (-1 : Int32) < 0 ∧ _ then _ else (-1 : Int32)) = -1
      rw [if_neg (fun z => z.1 (by decide))]
  · rintro j ⟨hj, hp⟩ m hm2
    obtain ⟨j2, x1, x2⟩ : ∃ j2 : Nat, nI j = nI j2 ∧ j2 < m := by
      rcases hm2 with z | z
      · exact absurd z (nI_pos (by omega))
      · exact z
    cases m with
    | zero => omega
    | succ m =>
      show (if ¬ nI j < 0 ∧ zr_same V (V.2.1 18 (nI j).toNatClampNeg) = 0 then _ else nI j) = nI j
      rw [nI_clamp (by omega), if_neg (fun z => (zr_same_at hT hm hN ht h27 h23 hw hj).mpr hp z.2)]
  · intro j y hj hp ih m hm2
    obtain ⟨j2, x1, x2⟩ : ∃ j2 : Nat, nI j = nI j2 ∧ j2 < m := by
      rcases hm2 with z | z
      · exact absurd z (nI_pos (by omega))
      · exact z
    cases m with
    | zero => omega
    | succ m =>
      show (if ¬ nI j < 0 ∧ zr_same V (V.2.1 18 (nI j).toNatClampNeg) = 0 then zr_chain V m (V.2.1 19 (nI j).toNatClampNeg) else nI j) = y
      have hz : zr_same V (V.2.1 18 j) = 0 := Decidable.byContradiction fun z => hp ⟨hj, (zr_same_at hT hm hN ht h27 h23 hw hj).mp z⟩
      rw [nI_clamp (by omega), if_pos ⟨nI_pos (by omega), hz⟩, c2 j hj]
      refine ih m ?_
      rcases (zq_last_lt (fun j => zq_b2 T (Q j) (W j)) (zq_b2 T (Q j) (W j)) j (by omega)).2 with z | ⟨j3, z1, z2, -⟩
      · exact Or.inl z
      · rcases Nat.lt_or_ge j2 (2 ^ 31) with q | q
        · have : j = j2 := z_injC (by omega) q x1
          exact Or.inr ⟨j3, z2, by omega⟩
        · exact Or.inr ⟨j3, z2, by omega⟩
end
