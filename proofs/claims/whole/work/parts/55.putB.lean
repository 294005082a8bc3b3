/-! A token with bytes of its own. -/
theorem zq_D_tok {T : Nat → Int32} {n : Nat} {N Z : zc_N} {M V : zm_M} {t k u w : Nat} {f : Nat → Int32} (h : zq_D T n N M t k u) (ht : t < 16384) (hw : u + w ≤ 60000) (hI : zc_I Z) (z71 : Z.1 71 = nI (t + 1)) (z1 : Z.1 1 = nI (u + w)) (z65 : Z.1 65 = 0) (z24 : Z.1 24 = N.1 24) (zr : ∀ a : Nat, a = 20 ∨ a = 21 ∨ a = 22 ∨ a = 23 → Z.2.1 a = N.2.1 a) (zrow : zc_row Z t (N.2.1 70) f) (zp : ∀ i : Nat, i < u → Z.2.1 0 i = N.2.1 0 i) (z58 : Z.1 58 = zr_asks (f 0)) (v3 : V.1 3 = nI (t + 1)) (v15 : V.1 15 = nI (u + w)) (v17 : V.1 17 = M.1 17) (v30 : V.1 30 = -1) (vr : ∀ r : Nat, 4 ≤ r → r ≤ 13 → ∀ j : Nat, j < t → V.2.1 r j = M.2.1 r j) (v18 : ∀ a : Nat, a = 18 ∨ a = 19 ∨ a = 20 → V.2.1 a = M.2.1 a) (v16 : ∀ i : Nat, i < u → V.2.1 16 i = M.2.1 16 i) (v22 : ∀ j : Nat, j < t → V.2.2 j = M.2.2 j) (f4 : V.2.1 4 t = f 0) (f5 : V.2.1 5 t = f 1) (f6 : V.2.1 6 t = f 2) (f7 : V.2.1 7 t = f 3) (f8 : V.2.1 8 t = f 4) (f9 : f 5 = if V.2.1 9 t = 0 then 0 else 1) (f10 : V.2.1 10 t = f 6) (f11 : V.2.1 11 t = f 7) (f13 : f 8 = nI w) (f13' : V.2.1 13 t = nI w) (f12 : f 9 = nI u) (f12' : V.2.1 12 t = nI u) (hb : ∀ i : Nat, i < w → Z.2.1 0 (u + i) = V.2.1 16 (u + i)) (hint : f 0 = 2 → (∃ s b : Nat, V.2.1 11 t = nI b ∧ zp_int (V.2.1 16) u w s b) ∧ V.2.2 t = zk_lowBits Z (nI t)) (hrune : f 0 = 4 → V.2.2 t = (f 10).toInt64) : zq_D T n Z V (t + 1) k (u + w) := by
  refine zq_D_add h hI ⟨⟨z71, v3, by omega, by omega⟩, ⟨z1, v15, by omega, hw⟩, zrow.1, zp, vr, v16, v22⟩ (fun j x y => ?_) (fun i x y => ?_) z65 v30 z24 v17 zr v18 ?_
  · have hj : j = t := by omega
    subst hj
    exact zp_tok_mk zrow f4 f5 f6 f7 f8 f9 f10 f11 f13 f13' f12 f12' z1 (Nat.le_refl _) hw hb hint hrune
  · have := hb (i - u) (by omega)
    rw [show u + (i - u) = i from by omega] at this
    exact this
  · rw [z58, zr_last_at v3 ht, f4]
/-- a token put from a state X that reading has led to -/
theorem zq_from {N X : zc_N} {t : Nat} (hI : zc_I X) (hF : zc_Fr N X) (h71 : N.1 71 = nI t) (ht : t < 16384) (kd l : Int32) : zc_I (zc_from X kd l) ∧ (zc_from X kd l).1 71 = nI (t + 1) ∧ (zc_from X kd l).1 24 = N.1 24 ∧ (∀ a : Nat, a ≠ 70 → a ≠ 0 → (zc_from X kd l).2.1 a = N.2.1 a) ∧ (zc_from X kd l).2.1 0 = X.2.1 0 ∧ zc_row (zc_from X kd l) t (N.2.1 70) (zc_fct X kd l) ∧ (zc_from X kd l).1 58 = zr_asks kd ∧ (∀ j : Nat, j ≠ 71 → j ≠ 58 → (zc_from X kd l).1 j = X.1 j) ∧ (t + 1) * 11 ≤ (zc_from X kd l).2.2.2 70 ∧ (zc_from X kd l).2.2.2 70 ≤ 200000 := by
  obtain ⟨F1, F2, F3, F4⟩ := hF
  have h71' : X.1 71 = nI t := (F1 71 (by decide) (by decide) (by decide) (by decide) (by decide) (by decide)).trans h71
  have hI0 : zc_I (zc_from X kd l) := zi_from hI (by rw [h71']; exact nI_lt ht (by decide)) kd l
  obtain ⟨r1, r2, r3, r4, r5, r6, r7⟩ := zc_from_at hI h71' ht kd l
  refine ⟨hI0, r2, ?_, fun a h1 h2 => (r5 a h1).trans (F2 a h2), r5 0 (by decide), ?_, by rw [r3, zk_ends_asks], r4, ?_, (zc_len hI0 70 (by decide)).2⟩
  · rw [r4 24 (by decide) (by decide)]
    exact F1 24 (by decide) (by decide) (by decide) (by decide) (by decide) (by decide)
  · rw [F2 70 (by decide)] at r1
    exact r1
  · obtain ⟨t9, x1, x2, x3⟩ := hI0.2.2.1
    have : t9 = t + 1 := z_injC (by omega) (by omega) (x1.symm.trans r2)
    omega
/-- a name or a word, bytes a .. a + w, put by both -/
theorem zq_putB {T : Nat → Int32} {n : Nat} (hT : zq_T T n) {N X : zc_N} {Y : zm_M} {a w t k u : Nat} {s : Int32} (h : zq_mid T n N Y (a + w) a t k u s) (ht : t < 16384) (hu : u ≤ a) (hw : a + w ≤ n) (hI : zc_I X) (hF : zc_Fr N X) (h65 : X.1 65 = 0) (h1 : X.1 1 = nI (u + w)) (hp : ∀ i : Nat, i < u → X.2.1 0 i = N.2.1 0 i) (hb : ∀ i : Nat, i < w → X.2.1 0 (u + i) = T (a + i)) (kd : Int32) (h2 : ¬ kd = 2) (h4 : ¬ kd = 4) {g : Nat → Int32} (hg : ∀ i : Nat, i < w → g i = zq_x T n (a + i)) {V : zm_M} (hV : V = zm_a (zm_keeps (zm_token Y kd (nI w) 0) g w) 13 (nI t) (nI w)) : zq_D T n (zc_from X kd (nI w)) V (t + 1) k (u + w) ∧ (∀ j : Nat, j ≠ 3 → j ≠ 15 → V.1 j = Y.1 j) ∧ V.2.1 1 = Y.2.1 1 ∧ (∀ i : Nat, i < w → (zc_from X kd (nI w)).2.1 0 (u + i) = T (a + i)) ∧ (∀ i : Nat, i < w → V.2.1 16 (u + i) = T (a + i)) ∧ V.2.1 5 t = nI a ∧ V.2.1 8 t = nI w ∧ V.2.1 12 t = nI u ∧ V.2.1 13 t = nI w ∧ V.2.1 4 t = kd := by
  have hn := hT.1
  have h9 := h
  obtain ⟨hD, ⟨⟨s1, s2, s3, s4⟩, s5, s6, s7⟩, hm, h21⟩ := h9
  have hK := hD.2.2.2.1.1
  obtain ⟨c1, c2, c3, c4, c5, c6, c7, c8, c9, c10⟩ := zq_from hI hF hK.1 ht kd (nI w)
  obtain ⟨m1, ⟨m4, m5, m6, m7, m8, m9, m10, m11, m12, m13⟩, m2, m3⟩ := zm_token_at hK.2.1 ht kd (nI w) 0
  have rw1 := zm_token_row hK.2.1 ht kd (nI w) 0
  have e15 : (zm_token Y kd (nI w) 0).1 15 = nI u := by rw [m1, zq_upd, if_neg (by decide)]; exact hK.2.2.2.2.1
  obtain ⟨k1, k2, k3, k4, k5, k6⟩ := zm_keeps_at e15 g w (by omega)
  have vr : ∀ r : Nat, r ≠ 13 → V.2.1 r = (zm_keeps (zm_token Y kd (nI w) 0) g w).2.1 r := by
    intro r hr
    rw [hV]
    show (if r = 13 then _ else (zm_keeps (zm_token Y kd (nI w) 0) g w).2.1 r) = _
    rw [if_neg hr]
  have v13 : V.2.1 13 = upd ((zm_keeps (zm_token Y kd (nI w) 0) g w).2.1 13) t (nI w) := by
    rw [hV]
    show (if 13 = 13 then upd ((zm_keeps (zm_token Y kd (nI w) 0) g w).2.1 13) (nI t).toNatClampNeg (nI w) else (zm_keeps (zm_token Y kd (nI w) 0) g w).2.1 13) = _
    rw [if_pos rfl, nI_clamp (by omega)]
  have v1 : ∀ j : Nat, V.1 j = (zm_keeps (zm_token Y kd (nI w) 0) g w).1 j := fun j => by rw [hV]
  have v22 : V.2.2 = (zm_keeps (zm_token Y kd (nI w) 0) g w).2.2 := by rw [hV]
  clear hV
  generalize zm_keeps (zm_token Y kd (nI w) 0) g w = K at k1 k2 k3 k4 k5 k6 vr v13 v1 v22
  generalize zm_token Y kd (nI w) 0 = Y1 at m1 m4 m5 m6 m7 m8 m9 m10 m11 m12 m13 m2 m3 rw1 e15 k1 k3 k5 k6
  have F9 := hF.1
  have e54 : X.1 54 = N.1 54 := F9 54 (by decide) (by decide) (by decide) (by decide) (by decide) (by decide)
  have e55 : X.1 55 = N.1 55 := F9 55 (by decide) (by decide) (by decide) (by decide) (by decide) (by decide)
  have e56 : X.1 56 = N.1 56 := F9 56 (by decide) (by decide) (by decide) (by decide) (by decide) (by decide)
  have e57 : X.1 57 = N.1 57 := F9 57 (by decide) (by decide) (by decide) (by decide) (by decide) (by decide)
  have hpool : ∀ i : Nat, i < w → V.2.1 16 (u + i) = T (a + i) := by
    intro i hi
    rw [vr 16 (by decide), k4 i hi, hg i hi]
    obtain ⟨q, q1, q2, q3⟩ := zq_xv hT (i := a + i) (by omega)
    rw [q3, q2]
    exact (zq_b255 q q1).2.2
  have t5 : V.2.1 5 t = nI a := by rw [vr 5 (by decide), k5 5 (by decide), m5, zq_upd, if_pos rfl, s5]
  have t8 : V.2.1 8 t = nI w := by rw [vr 8 (by decide), k5 8 (by decide), m8, zq_upd, if_pos rfl]
  have t12 : V.2.1 12 t = nI u := by rw [vr 12 (by decide), k5 12 (by decide), m12, zq_upd, if_pos rfl]; exact hK.2.2.2.2.1
  have t13 : V.2.1 13 t = nI w := by rw [v13, zq_upd, if_pos rfl]
  have vo : ∀ j : Nat, j ≠ 3 → j ≠ 15 → V.1 j = Y.1 j := by
    intro j h3 h15
    rw [v1, k1 j h15, m1, zq_upd, if_neg h3]
  refine ⟨?_, vo, by rw [vr 1 (by decide), k5 1 (by decide), m2 1 (by decide)], fun i hi => by rw [c5]; exact hb i hi, hpool, t5, t8, t12, t13, by rw [vr 4 (by decide), k5 4 (by decide), m4, zq_upd, if_pos rfl]⟩
  refine zq_D_tok hD ht (by omega) c1 c2 ?_ ?_ c3 (fun b hb => c4 b (by omega) (by omega)) c6 (fun i hi => by rw [c5]; exact hp i hi) c7 ?_ ?_ (vo 17 (by decide) (by decide)) ?_ (fun r x y j hj => ?_) (fun b hb => ?_) (fun i hi => ?_) (fun j hj => ?_) ?_ ?_ ?_ ?_ ?_ ?_ ?_ ?_ ?_ t13 ?_ t12 (fun i hi => by rw [c5, hb i hi, hpool i hi]) (fun z => absurd z h2) (fun z => absurd z h4)
  · rw [c8 1 (by decide) (by decide)]; exact h1
  · rw [c8 65 (by decide) (by decide)]; exact h65
  · rw [v1, k1 3 (by decide), m1, zq_upd, if_pos rfl]
  · rw [v1]; exact k2
  · rw [vo 30 (by decide) (by decide)]; exact hD.2.2.1
  · by_cases c : r = 13
    · subst c
      rw [v13, zq_upd, if_neg (by omega), k5 13 (by decide)]
      exact rw1 13 j x y hj
    · rw [vr r c, k5 r (by omega)]
      exact rw1 r j x y hj
  · rw [vr b (by omega), k5 b (by omega), m2 b (by omega)]
  · rw [vr 16 (by decide), k3 i hi, m2 16 (by decide)]
  · rw [v22, k6, m3]
    show (if j = t then _ else Y.2.2 j) = Y.2.2 j
    rw [if_neg (by omega)]
  · rw [vr 4 (by decide), k5 4 (by decide), m4, zq_upd, if_pos rfl]; rfl
  · rw [t5]; exact (e54.trans s1).symm
  · rw [vr 6 (by decide), k5 6 (by decide), m6, zq_upd, if_pos rfl, s6]; exact (e55.trans s2).symm
  · rw [vr 7 (by decide), k5 7 (by decide), m7, zq_upd, if_pos rfl, s7]; exact (e56.trans s3).symm
  · rw [t8]; rfl
  · rw [vr 9 (by decide), k5 9 (by decide), m9, zq_upd, if_pos rfl]; rfl
  · rw [vr 10 (by decide), k5 10 (by decide), m10, zq_upd, if_pos rfl]; rfl
  · rw [vr 11 (by decide), k5 11 (by decide), m11, zq_upd, if_pos rfl]; rfl
  · show X.1 1 - X.1 57 = _
    rw [h1, e57, s4, pk_sub (by omega), Nat.add_sub_cancel_left]
  · exact e57.trans s4
