/-! Bytes kept; chains of names. -/
theorem zc_append_at {N : zc_N} (hI : zc_I N) {v : Nat} (h1 : N.1 1 = nI v) (hv : v < 65536) (y : Int32) : (zc_append N y).1 1 = nI (v + 1) ∧ (∀ i : Nat, i < v → (zc_append N y).2.1 0 i = N.2.1 0 i) ∧ (zc_append N y).2.1 0 v = vp_nar .byte y.toInt8.toInt32 ∧ (∀ j : Nat, j ≠ 1 → (zc_append N y).1 j = N.1 j) ∧ (∀ r : Nat, r ≠ 0 → (zc_append N y).2.1 r = N.2.1 r) := by
  have hl := zc_len hI 0 (by decide)
  obtain ⟨u, u1, u2⟩ := hI.2.2.2.1
  obtain ⟨e, e1, e2⟩ := hI.1.2.1
  have huv : u = v := z_injC (by omega) (by omega) (u1.symm.trans h1)
  subst huv
  have hg : ∀ X : zc_N, X.1 = N.1 → u < X.2.2.2 0 → X.2.2.2 0 ≤ 400000 → (∀ i : Nat, i < u → X.2.1 0 i = N.2.1 0 i) → (∀ r : Nat, r ≠ 0 → X.2.1 r = N.2.1 r) → (let Z := if X.1 1 < nI (X.2.2.2 0) then zc_s (zc_a X 0 (X.1 1) (vp_nar .byte y.toInt8.toInt32)) 1 (X.1 1 + 1) else X; Z.1 1 = nI (u + 1) ∧ (∀ i : Nat, i < u → Z.2.1 0 i = N.2.1 0 i) ∧ Z.2.1 0 u = vp_nar .byte y.toInt8.toInt32 ∧ (∀ j : Nat, j ≠ 1 → Z.1 j = N.1 j) ∧ (∀ r : Nat, r ≠ 0 → Z.2.1 r = N.2.1 r)) := by
    intro X x1 x2 x5 x3 x4
    have hx : X.1 1 = nI u := by rw [x1]; exact h1
    have hlt : X.1 1 < nI (X.2.2.2 0) := by rw [hx]; exact nI_lt x2 (by omega)
    rw [if_pos hlt]
    refine ⟨?_, fun i hi => ?_, ?_, fun j hj => ?_, fun r hr => ?_⟩
    · show X.1 1 + 1 = _
      rw [hx, nI_1]
    · show (if 0 = 0 then upd (X.2.1 0) (X.1 1).toNatClampNeg (vp_nar .byte y.toInt8.toInt32) else X.2.1 0) i = _
      rw [if_pos rfl, hx, nI_clamp (by omega), zq_upd, if_neg (by omega)]
      exact x3 i hi
    · show (if 0 = 0 then upd (X.2.1 0) (X.1 1).toNatClampNeg (vp_nar .byte y.toInt8.toInt32) else X.2.1 0) u = _
      rw [if_pos rfl, hx, nI_clamp (by omega), zq_upd, if_pos rfl]
    · show upd X.1 1 _ j = _
      rw [zq_upd, if_neg hj, x1]
    · show (if r = 0 then upd (X.2.1 0) (X.1 1).toNatClampNeg (vp_nar .byte y.toInt8.toInt32) else X.2.1 r) = _
      rw [if_neg hr]
      exact x4 r hr
  unfold zc_append
  by_cases c : ¬ N.1 1 < nI (N.2.2.2 0) ∧ nI (N.2.2.2 0) < 65536
  · rw [if_pos c]
    have hu : ¬ u < N.2.2.2 0 := fun z => c.1 (by rw [h1]; exact nI_lt z (by omega))
    refine hg (zc_g N 0 (2 * N.2.2.2 0)) rfl ?_ ?_ (fun i hi => ?_) (fun r hr => ?_)
    · show u < if 0 = 0 then 2 * N.2.2.2 0 else N.2.2.2 0
      rw [if_pos rfl]
      omega
    · show (if 0 = 0 then 2 * N.2.2.2 0 else N.2.2.2 0) ≤ 400000
      rw [if_pos rfl]
      omega
    · show (if 0 = 0 then (fun k => if k < N.2.2.2 0 then N.2.1 0 k else 0) else N.2.1 0) i = _
      rw [if_pos rfl]
      show (if i < N.2.2.2 0 then N.2.1 0 i else 0) = _
      rw [if_pos (by omega)]
    · show (if r = 0 then _ else N.2.1 r) = _
      rw [if_neg hr]
  · rw [if_neg c]
    refine hg N rfl ?_ (by omega) (fun _ _ => rfl) (fun _ _ => rfl)
    rcases Nat.lt_or_ge u (N.2.2.2 0) with q | q
    · exact q
    · exfalso
      refine c ⟨fun z => ?_, ?_⟩
      · rw [h1] at z
        have := z_lit (by omega) (by omega) z
        omega
      · have : N.2.2.2 0 < 65536 := by omega
        exact nI_lt this (by decide)
/-- one byte of the text kept -/
theorem zc_keepB_at {T : Nat → Int32} {n : Nat} (hT : zq_T T n) {N : zc_N} (hI : zc_I N) {v c : Nat} (hc : zq_ct T n N c) (hcn : c < n) (h1 : N.1 1 = nI v) (hv : v < 65536) : zq_ct T n (zc_keepB N) (c + 1) ∧ (zc_keepB N).1 1 = nI (v + 1) ∧ (∀ i : Nat, i < v → (zc_keepB N).2.1 0 i = N.2.1 0 i) ∧ (zc_keepB N).2.1 0 v = T c := by
  have hn := hT.1
  obtain ⟨a1, a2, a3, a4, a5⟩ := zc_append_at hI h1 hv (zk_here N)
  have hc2 : zq_ct T n (zc_append N (zk_here N)) c := zq_ct_eq hc (fun j hj => a4 j (by omega)) (a5 60 (by decide))
  unfold zc_keepB
  refine ⟨zc_step_at hT hc2 hcn, ?_, fun i hi => ?_, ?_⟩
  · rw [zc_step_1 (by decide) (by decide) (by decide)]; exact a1
  · rw [zc_step_2]; exact a2 i hi
  · rw [zc_step_2, a3, zk_here_at hT hc (by omega)]
    obtain ⟨w, w1, w2, w3⟩ := zq_xv hT hcn
    rw [w3, w2]
    exact (zq_b255 w w1).2.2
theorem zm_keep_at {M : zm_M} {u : Nat} (h : M.1 15 = nI u) (hu : u < 65536) (y : Int32) : (∀ j : Nat, j ≠ 15 → (zm_keep M y).1 j = M.1 j) ∧ (zm_keep M y).1 15 = nI (u + 1) ∧ (∀ i : Nat, i < u → (zm_keep M y).2.1 16 i = M.2.1 16 i) ∧ (zm_keep M y).2.1 16 u = vp_nar .byte y.toInt8.toInt32 ∧ (∀ r : Nat, r ≠ 16 → (zm_keep M y).2.1 r = M.2.1 r) ∧ (zm_keep M y).2.2 = M.2.2 := by
  unfold zm_keep
  refine ⟨fun j hj => ?_, ?_, fun i hi => ?_, ?_, fun r hr => ?_, rfl⟩
  · show upd M.1 15 _ j = _
    rw [zq_upd, if_neg hj]
  · show M.1 15 + 1 = _
    rw [h, nI_1]
  · show (if 16 = 16 then upd (M.2.1 16) (M.1 15).toNatClampNeg (vp_nar .byte y.toInt8.toInt32) else M.2.1 16) i = _
    rw [if_pos rfl, h, nI_clamp (by omega), zq_upd, if_neg (by omega)]
  · show (if 16 = 16 then upd (M.2.1 16) (M.1 15).toNatClampNeg (vp_nar .byte y.toInt8.toInt32) else M.2.1 16) u = _
    rw [if_pos rfl, h, nI_clamp (by omega), zq_upd, if_pos rfl]
  · show (if r = 16 then _ else M.2.1 r) = _
    rw [if_neg hr]
theorem zm_keeps_at {M : zm_M} {u : Nat} (h : M.1 15 = nI u) (f : Nat → Int32) : ∀ m : Nat, u + m ≤ 60000 → (∀ j : Nat, j ≠ 15 → (zm_keeps M f m).1 j = M.1 j) ∧ (zm_keeps M f m).1 15 = nI (u + m) ∧ (∀ i : Nat, i < u → (zm_keeps M f m).2.1 16 i = M.2.1 16 i) ∧ (∀ i : Nat, i < m → (zm_keeps M f m).2.1 16 (u + i) = vp_nar .byte (f i).toInt8.toInt32) ∧ (∀ r : Nat, r ≠ 16 → (zm_keeps M f m).2.1 r = M.2.1 r) ∧ (zm_keeps M f m).2.2 = M.2.2 := by
  intro m
  induction m with
  | zero => intro _; exact ⟨fun _ _ => rfl, h, fun _ _ => rfl, fun i hi => absurd hi (by omega), fun _ _ => rfl, rfl⟩
  | succ m ih =>
    intro hm
    obtain ⟨i1, i2, i3, i4, i5, i6⟩ := ih (by omega)
    show (∀ j : Nat, j ≠ 15 → (zm_keep (zm_keeps M f m) (f m)).1 j = M.1 j) ∧ (zm_keep (zm_keeps M f m) (f m)).1 15 = _ ∧ (∀ i : Nat, i < u → (zm_keep (zm_keeps M f m) (f m)).2.1 16 i = M.2.1 16 i) ∧ (∀ i : Nat, i < m + 1 → (zm_keep (zm_keeps M f m) (f m)).2.1 16 (u + i) = _) ∧ (∀ r : Nat, r ≠ 16 → (zm_keep (zm_keeps M f m) (f m)).2.1 r = _) ∧ (zm_keep (zm_keeps M f m) (f m)).2.2 = _
    obtain ⟨k1, k2, k3, k4, k5, k6⟩ := zm_keep_at i2 (by omega) (f m)
    refine ⟨fun j hj => (k1 j hj).trans (i1 j hj), k2, fun i hi => (k3 i (by omega)).trans (i3 i hi), fun i hi => ?_, fun r hr => (k5 r hr).trans (i5 r hr), k6.trans i6⟩
    rcases Nat.lt_or_ge i m with q | q
    · exact (k3 _ (by omega)).trans (i4 i q)
    · have : i = m := by omega
      subst this
      exact k4
-- chains
theorem zq_last_lt (b : Nat → Nat) (h : Nat) : ∀ k : Nat, k < 2 ^ 31 → zq_last b h k < nI k ∧ (zq_last b h k < 0 ∨ ∃ j : Nat, j < k ∧ zq_last b h k = nI j ∧ b j = h) := by
  intro k
  induction k with
  | zero => intro _; exact ⟨show (-1 : Int32) < nI 0 by decide, Or.inl (show (-1 : Int32) < 0 by decide)⟩
  | succ k ih =>
    intro hk
    obtain ⟨i1, i2⟩ := ih (by omega)
    show (if b k = h then nI k else zq_last b h k) < _ ∧ ((if b k = h then nI k else zq_last b h k) < 0 ∨ ∃ j : Nat, j < k + 1 ∧ (if b k = h then nI k else zq_last b h k) = nI j ∧ b j = h)
    by_cases c : b k = h
    · rw [if_pos c]
      exact ⟨nI_lt (by omega) hk, Or.inr ⟨k, by omega, rfl, c⟩⟩
    · rw [if_neg c]
      refine ⟨Int32.lt_trans i1 (nI_lt (by omega) hk), ?_⟩
      rcases i2 with z | ⟨j, z1, z2, z3⟩
      · exact Or.inl z
      · exact Or.inr ⟨j, by omega, z2, z3⟩
theorem zq_last_congr {b c : Nat → Nat} {h : Nat} : ∀ k : Nat, (∀ j : Nat, j < k → b j = c j) → zq_last b h k = zq_last c h k := by
  intro k
  induction k with
  | zero => intro _; rfl
  | succ k ih =>
    intro he
    show (if b k = h then nI k else zq_last b h k) = (if c k = h then nI k else zq_last c h k)
    rw [he k (by omega), ih fun j hj => he j (by omega)]
/-- the last of k that is P -/
def zq_lp (P : Nat → Prop) [DecidablePred P] : Nat → Int32
  | 0 => -1
  | j + 1 => if P j then nI j else zq_lp P j
/-- a walk along a chain finds the last one -/
theorem zq_walk (b : Nat → Nat) (h : Nat) (P : Nat → Prop) [DecidablePred P] (hP : ∀ j : Nat, P j → b j = h) (R : Int32 → Int32 → Prop) (R0 : R (-1) (-1)) (RP : ∀ (j : Nat), P j → R (nI j) (nI j)) (k : Nat) (RN : ∀ (j : Nat) (y : Int32), j < k → ¬ P j → R (zq_last b (b j) j) y → R (nI j) y) : ∀ m : Nat, m ≤ k → R (zq_last b h m) (zq_lp P m) := by
  intro m
  induction m with
  | zero => intro _; exact R0
  | succ m ih =>
    intro hm
    show R (if b m = h then nI m else zq_last b h m) (if P m then nI m else zq_lp P m)
    by_cases c : P m
    · rw [if_pos c, if_pos (hP m c)]
      exact RP m c
    · rw [if_neg c]
      by_cases d : b m = h
      · rw [if_pos d]
        refine RN m _ (by omega) c ?_
        rw [d]
        exact ih (by omega)
      · rw [if_neg d]
        exact ih (by omega)
