/-! A token put: what the rows hold then. -/
theorem zc_tell_at {X : zc_N} {t w : Nat} {v : Int32} (h71 : X.1 71 = nI (t + 1)) (hL : (t + 1) * 11 ≤ X.2.2.2 70) (hl : X.2.2.2 70 ≤ 200000) (hw : w < 11) : zc_tell X (nI w) v = zc_a X 70 (nI (t * 11 + w)) v := by
  have e : (X.1 71 - 1) * 11 + nI w = nI (t * 11 + w) := by rw [h71, nI_pred, z_mul11, nI_add]
  unfold zc_tell
  rw [e, if_pos ⟨nI_pos (by omega), nI_lt (by omega) (by omega)⟩]
/-- the facts of the last token: f, the rows before it: r -/
def zc_row (X : zc_N) (t : Nat) (r : Nat → Int32) (f : Nat → Int32) : Prop := (∀ i : Nat, i < t * 11 → X.2.1 70 i = r i) ∧ ∀ w : Nat, w < 11 → X.2.1 70 (t * 11 + w) = f w
theorem zc_row_tell {X : zc_N} {t w : Nat} {v : Int32} {r f : Nat → Int32} (h71 : X.1 71 = nI (t + 1)) (hL : (t + 1) * 11 ≤ X.2.2.2 70) (hl : X.2.2.2 70 ≤ 200000) (hw : w < 11) (h : zc_row X t r f) : zc_row (zc_tell X (nI w) v) t r (upd f w v) ∧ (zc_tell X (nI w) v).1 = X.1 ∧ (∀ a : Nat, a ≠ 70 → (zc_tell X (nI w) v).2.1 a = X.2.1 a) ∧ (zc_tell X (nI w) v).2.2 = X.2.2 := by
  rw [zc_tell_at h71 hL hl hw]
  have hrow : (zc_a X 70 (nI (t * 11 + w)) v).2.1 70 = upd (X.2.1 70) (t * 11 + w) v := by
    show (if 70 = 70 then upd (X.2.1 70) (nI (t * 11 + w)).toNatClampNeg v else X.2.1 70) = _
    rw [if_pos rfl, nI_clamp (by omega)]
  refine ⟨⟨fun i hi => ?_, fun j hj => ?_⟩, rfl, fun a ha => ?_, rfl⟩
  · rw [hrow, zq_upd, if_neg (by omega)]
    exact h.1 i hi
  · rw [hrow, zq_upd, zq_upd]
    by_cases e : j = w
    · rw [if_pos (by omega), if_pos e]
    · rw [if_neg (by omega), if_neg e]
      exact h.2 j hj
  · show (if a = 70 then _ else X.2.1 a) = X.2.1 a
    rw [if_neg ha]
/-- what stays -/
def zc_kp (X N : zc_N) (t : Nat) : Prop := X.1 71 = nI (t + 1) ∧ (∀ k : Nat, k ≠ 71 → X.1 k = N.1 k) ∧ (∀ a : Nat, a ≠ 70 → X.2.1 a = N.2.1 a) ∧ X.2.2.1 = N.2.2.1 ∧ (t + 1) * 11 ≤ X.2.2.2 70 ∧ X.2.2.2 70 ≤ 200000 ∧ ∀ a : Nat, a ≠ 70 → X.2.2.2 a = N.2.2.2 a
theorem zc_kp_tell {X N : zc_N} {t w : Nat} {v : Int32} {r f : Nat → Int32} (hk : zc_kp X N t) (h : zc_row X t r f) (hw : w < 11) : zc_kp (zc_tell X (nI w) v) N t ∧ zc_row (zc_tell X (nI w) v) t r (upd f w v) := by
  obtain ⟨k1, k2, k3, k4, k5, k6, k7⟩ := hk
  obtain ⟨g1, g2, g3, g4⟩ := zc_row_tell (v := v) k1 k5 k6 hw h
  refine ⟨⟨by rw [g2]; exact k1, fun k hk => by rw [g2]; exact k2 k hk, fun a ha => (g3 a ha).trans (k3 a ha), by rw [g4]; exact k4, by rw [g4]; exact k5, by rw [g4]; exact k6, fun a ha => by rw [g4]; exact k7 a ha⟩, g1⟩
theorem zc_kp_more {N : zc_N} (hI : zc_I N) {t : Nat} (h71 : N.1 71 = nI t) (ht : t < 16384) : zc_kp (zc_s (zc_more70 N) 71 ((zc_more70 N).1 71 + 1)) N t ∧ ∃ f : Nat → Int32, zc_row (zc_s (zc_more70 N) 71 ((zc_more70 N).1 71 + 1)) t (N.2.1 70) f := by
  have hf : N.1 71 < 16384 := by rw [h71]; exact nI_lt ht (by decide)
  have hi := zi_more70 hI hf
  have hl := zc_len hi 70 (by decide)
  obtain ⟨t', e1, e2, -⟩ := hi.2.2.1
  obtain ⟨t0, a1, a2, a3⟩ := hI.2.2.1
  have et0 : t0 = t := z_injC (by omega) (by omega) (a1.symm.trans h71)
  have e71 : (zc_s (zc_more70 N) 71 ((zc_more70 N).1 71 + 1)).1 71 = nI (t + 1) := by
    show (zc_more70 N).1 71 + 1 = nI (t + 1)
    rw [zc_more70_1, h71, nI_1]
  have et : t' = t + 1 := by
    have hl9 : t' * 11 ≤ 200000 := Nat.le_trans e2 hl.2
    exact z_injC (by omega) (by omega) (e1.symm.trans e71)
  subst et
  have hm : zc_more70 N = zc_g N 70 (2 * N.2.2.2 70) ∨ zc_more70 N = N := by
    unfold zc_more70
    split
    · exact Or.inl rfl
    · exact Or.inr rfl
  refine ⟨⟨e71, fun k hk => ?_, fun a ha => ?_, ?_, e2, hl.2, fun a ha => ?_⟩, fun w => (zc_more70 N).2.1 70 (t * 11 + w), ⟨fun i hi => ?_, fun w _ => rfl⟩⟩
  · show upd (zc_more70 N).1 71 _ k = N.1 k
    rw [zq_upd, if_neg hk, zc_more70_1]
  · show (zc_more70 N).2.1 a = N.2.1 a
    rcases hm with e | e
    · rw [e]
      show (if a = 70 then _ else N.2.1 a) = _
      rw [if_neg ha]
    · rw [e]
  · show (zc_more70 N).2.2.1 = N.2.2.1
    rcases hm with e | e <;> rw [e]
  · show (zc_more70 N).2.2.2 a = N.2.2.2 a
    rcases hm with e | e
    · rw [e]
      show (if a = 70 then _ else N.2.2.2 a) = _
      rw [if_neg ha]
    · rw [e]
  · show (zc_more70 N).2.1 70 i = N.2.1 70 i
    rcases hm with e | e
    · rw [e]
      show (if i < N.2.2.2 70 then N.2.1 70 i else 0) = _
      rw [if_pos (by omega)]
    · rw [e]
theorem zc_kt {X N : zc_N} {t : Nat} {r f : Nat → Int32} (w : Nat) (l v : Int32) (hl : nI w = l) (hw : w < 11) (h : zc_kp X N t ∧ zc_row X t r f) : zc_kp (zc_tell X l v) N t ∧ zc_row (zc_tell X l v) t r (upd f w v) := by
  rw [← hl]
  exact zc_kp_tell h.1 h.2 hw
theorem zc_kz {X N : zc_N} {t : Nat} {r f : Nat → Int32} (h : zc_kp X N t ∧ zc_row X t r f) : zc_kp (zc_zero X) N t ∧ zc_row (zc_zero X) t r (fun _ => 0) := by
  unfold zc_zero
  have A := zc_kt 10 10 0 rfl (by decide) (zc_kt 9 9 0 rfl (by decide) (zc_kt 8 8 0 rfl (by decide) (zc_kt 7 7 0 rfl (by decide) (zc_kt 6 6 0 rfl (by decide) (zc_kt 5 5 0 rfl (by decide) (zc_kt 4 4 0 rfl (by decide) (zc_kt 3 3 0 rfl (by decide) (zc_kt 2 2 0 rfl (by decide) (zc_kt 1 1 0 rfl (by decide) (zc_kt 0 0 0 rfl (by decide) h))))))))))
  refine ⟨A.1, A.2.1, fun w hw => ?_⟩
  have := A.2.2 w hw
  refine this.trans ?_
  have hc : w = 0 ∨ w = 1 ∨ w = 2 ∨ w = 3 ∨ w = 4 ∨ w = 5 ∨ w = 6 ∨ w = 7 ∨ w = 8 ∨ w = 9 ∨ w = 10 := by omega
  rcases hc with rfl | rfl | rfl | rfl | rfl | rfl | rfl | rfl | rfl | rfl | rfl <;> rfl
/-- the facts of a token put from its start -/
def zc_fct (N : zc_N) (k n : Int32) (w : Nat) : Int32 := if w = 0 then k else if w = 1 then N.1 54 else if w = 2 then N.1 55 else if w = 3 then N.1 56 else if w = 4 then n else if w = 6 then -1 else if w = 8 then N.1 1 - N.1 57 else if w = 9 then N.1 57 else 0
theorem zc_from_at {N : zc_N} (hI : zc_I N) {t : Nat} (h71 : N.1 71 = nI t) (ht : t < 16384) (k n : Int32) : zc_row (zc_from N k n) t (N.2.1 70) (zc_fct N k n) ∧ (zc_from N k n).1 71 = nI (t + 1) ∧ (zc_from N k n).1 58 = zk_ends k ∧ (∀ j : Nat, j ≠ 71 → j ≠ 58 → (zc_from N k n).1 j = N.1 j) ∧ (∀ a : Nat, a ≠ 70 → (zc_from N k n).2.1 a = N.2.1 a) ∧ (zc_from N k n).2.2.1 = N.2.2.1 ∧ (∀ a : Nat, a ≠ 70 → (zc_from N k n).2.2.2 a = N.2.2.2 a) := by
  obtain ⟨K0, f0, R0⟩ := zc_kp_more hI h71 ht
  have hA : zc_kp (zc_add N k) N t ∧ zc_row (zc_add N k) t (N.2.1 70) (upd (upd (fun _ => 0) 0 k) 6 (-1)) := by
    unfold zc_add
    exact zc_kt 6 6 (-1) rfl (by decide) (zc_kt 0 0 k rfl (by decide) (zc_kz ⟨K0, R0⟩))
  have e1 : ∀ j : Nat, j ≠ 71 → (zc_add N k).1 j = N.1 j := hA.1.2.1
  have hB : zc_kp (zc_from1 (zc_add N k) n) N t ∧ zc_row (zc_from1 (zc_add N k) n) t (N.2.1 70) (upd (upd (upd (upd (upd (upd (upd (fun _ => 0) 0 k) 6 (-1)) 1 ((zc_add N k).1 54)) 2 ((zc_add N k).1 55)) 3 ((zc_add N k).1 56)) 4 n) 9 ((zc_add N k).1 57)) := by
    unfold zc_from1
    exact zc_kt 9 9 _ rfl (by decide) (zc_kt 4 4 _ rfl (by decide) (zc_kt 3 3 _ rfl (by decide) (zc_kt 2 2 _ rfl (by decide) (zc_kt 1 1 _ rfl (by decide) hA))))
  have C := zc_kt 8 8 (N.1 1 - N.1 57) rfl (by decide) hB
  rw [e1 57 (by decide), e1 56 (by decide), e1 55 (by decide), e1 54 (by decide)] at C
  obtain ⟨CK, CR⟩ := C
  have ef : zc_from N k n = zc_s (zc_tell (zc_from1 (zc_add N k) n) 8 (N.1 1 - N.1 57)) 58 (zk_ends k) := by
    unfold zc_from zc_from2
    rw [hB.1.2.1 1 (by decide), hB.1.2.1 57 (by decide)]
  rw [ef]
  clear ef
  generalize zc_tell (zc_from1 (zc_add N k) n) 8 (N.1 1 - N.1 57) = Y at CK CR ⊢
  obtain ⟨c1, c2, c3, c4, c5, c6, c7⟩ := CK
  refine ⟨⟨CR.1, fun w hw => ?_⟩, c1, rfl, fun j h1 h2 => ?_, c3, c4, c7⟩
  · have := CR.2 w hw
    refine this.trans ?_
    have hc : w = 0 ∨ w = 1 ∨ w = 2 ∨ w = 3 ∨ w = 4 ∨ w = 5 ∨ w = 6 ∨ w = 7 ∨ w = 8 ∨ w = 9 ∨ w = 10 := by omega
    rcases hc with rfl | rfl | rfl | rfl | rfl | rfl | rfl | rfl | rfl | rfl | rfl <;> rfl
  · show upd Y.1 58 _ j = N.1 j
    rw [zq_upd, if_neg h2]
    exact c2 j h1
