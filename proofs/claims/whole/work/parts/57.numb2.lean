theorem zq_numbered {T : Nat → Int32} {n : Nat} (hT : zq_T T n) {Z : zc_N} {V : zm_M} {t k u w a : Nat} (hD : zq_D T n Z V (t + 1) k (u + w)) (ht : t < 16384) (hk : k ≤ t) (hw : 1 ≤ w) (ha : a + w ≤ n) (hl1 : (t + 1) * 11 ≤ Z.2.2.2 70) (hl2 : Z.2.2.2 70 ≤ 200000) (hm : zq_mt T n V (a + w)) (h23 : V.1 23 = nI a) (hZ : ∀ i : Nat, i < w → Z.2.1 0 (u + i) = T (a + i)) (hV : ∀ i : Nat, i < w → V.2.1 16 (u + i) = T (a + i)) (v5 : V.2.1 5 t = nI a) (v8 : V.2.1 8 t = nI w) (v12 : V.2.1 12 t = nI u) (v13 : V.2.1 13 t = nI w) (v4 : V.2.1 4 t = 1) : (∃ k' : Nat, k' ≤ t + 1 ∧ zq_D T n (zc_numbered Z (zq_h1 T a w)) (zm_numbered V) (t + 1) k' (u + w)) ∧ (∀ j : Nat, j ≠ 24 → (zc_numbered Z (zq_h1 T a w)).1 j = Z.1 j) ∧ (zc_numbered Z (zq_h1 T a w)).2.1 60 = Z.2.1 60 ∧ (∀ j : Nat, j ≠ 17 → (zm_numbered V).1 j = V.1 j) ∧ (zm_numbered V).2.1 1 = V.2.1 1 := by
  have hn := hT.1
  have h9 := hD
  obtain ⟨d1, d2, d3, ⟨d4, d5, d6⟩, ⟨n1, n2, n3, Q, W, hN, hC⟩, d12⟩ := h9
  have h27 : V.1 27 = nI (a + w) := hm.2.2.1
  obtain ⟨eh, hb2⟩ := zr_hash_at hT hm h27 h23 hw ha
  have h2723 : V.1 27 - V.1 23 = nI w := by rw [h27, h23, pk_sub (by omega), Nat.add_sub_cancel_left]
  have hb1 : zq_b1 T a w < 512 := by
    unfold zq_b1
    obtain ⟨j, j1, j2⟩ := pk_andE (zq_h1 T a w) (m := 511) 9 (by decide)
    rw [j2, nI_clamp (by omega)]
    omega
  haveI : DecidablePred (zq_P T Q W a w) := fun _ => Classical.propDecidable _
  have e71 : Z.1 71 - 1 = nI t := by rw [d4.1, nI_pred]
  have tok := d4.2.2.1 t (by omega)
  have f8 : zk_fact Z (nI t) 8 = nI w := by rw [zk_fact_at (w := 8) d4.1 d5 (by omega) (by decide) 8 rfl, tok.1.2.2.2.2.2.2.2.2.1, v13]
  have f9 : zk_fact Z (nI t) 9 = nI u := by rw [zk_fact_at (w := 9) d4.1 d5 (by omega) (by decide) 9 rfl, tok.1.2.2.2.2.2.2.2.2.2, v12]
  have ef : zk_found Z (nI t) (zq_h1 T a w) = zq_lp (zq_P T Q W a w) k := by
    unfold zk_found
    rw [f8, f9, n1, nI_clamp (by omega)]
    exact zk_found_at hT hD hN hC (Nat.le_refl _) hZ hb1
  have er : zr_chain V zr_F (V.2.1 20 (zr_hash V).toNatClampNeg) = zq_lp (zq_P T Q W a w) k := zr_chain_at hT hm hD hN hC h2723 h23 ha hb2 hw eh
  have e3 : V.1 3 - 1 = nI t := by rw [d4.2.1, nI_pred]
  have hKK : zc_K Z := ⟨k, t + 1, n1, d4.1, by omega, by omega⟩
  unfold zc_numbered
  rw [e71]
  by_cases c : zq_lp (zq_P T Q W a w) k < 0
  · -- a new name
    have en : zc_number Z (nI t) (zq_h1 T a w) = zc_addN Z (nI t) (zq_h1 T a w) := by unfold zc_number; rw [ef, if_pos c]
    obtain ⟨a1, a2, a3, a4, a5, a6, a7, a8⟩ := zc_addN_at d1 n1 (by omega) (nI t) (zq_h1 T a w)
    have ek : zk_number Z (nI t) (zq_h1 T a w) = nI k := by unfold zk_number; rw [ef, if_pos c, a8]
    have hI2 : zc_I (zc_addN Z (nI t) (zq_h1 T a w)) := zi_addN d1 hKK _ _
    rw [en, ek]
    have hI3 : zc_I (zc_tell (zc_addN Z (nI t) (zq_h1 T a w)) 6 (nI k)) := zi_tell hI2 _ _
    generalize zc_addN Z (nI t) (zq_h1 T a w) = A at a1 a2 a3 a4 a5 a6 a7 hI2 hI3 ⊢
    have r0 : zc_row A t (Z.2.1 70) (fun w => Z.2.1 70 (t * 11 + w)) := ⟨fun i _ => by rw [a3 70 (by decide) (by decide) (by decide) (by decide)], fun i _ => by rw [a3 70 (by decide) (by decide) (by decide) (by decide)]⟩
    obtain ⟨q1, q2, q3, q4⟩ := zc_row_tl 6 6 (nI k) rfl ((a2 71 (by decide)).trans d4.1) (by rw [a7]; exact hl1) (by rw [a7]; exact hl2) (by decide) r0
    generalize zc_tell A 6 (nI k) = X at q1 q2 q3 q4 hI3 ⊢
    have em : zm_numbered V = zm_a (zm_s (zm_a (zm_a (zm_a V 18 (V.1 17) (V.1 3 - 1)) 19 (V.1 17) (V.2.1 20 (zr_hash V).toNatClampNeg)) 20 (zr_hash V) (V.1 17)) 17 (V.1 17 + 1)) 10 (V.1 3 - 1) (V.1 17) := by
      unfold zm_numbered
      dsimp only
      rw [er, if_pos c]
    have ck : (nI k).toNatClampNeg = k := nI_clamp (by omega)
    have ct : (nI t).toNatClampNeg = t := nI_clamp (by omega)
    have ch : (zr_hash V).toNatClampNeg = zq_b2 T a w := by rw [eh]; rfl
    have y1 : ∀ j : Nat, j ≠ 17 → (zm_numbered V).1 j = V.1 j := by
      intro j hj
      rw [em]
      show upd V.1 17 _ j = _
      rw [zq_upd, if_neg hj]
    have y17 : (zm_numbered V).1 17 = nI (k + 1) := by
      rw [em]
      show V.1 17 + 1 = _
      rw [n2, nI_1]
    have y10 : (zm_numbered V).2.1 10 = upd (V.2.1 10) t (nI k) := by
      rw [em]
      show upd (V.2.1 10) (V.1 3 - 1).toNatClampNeg (V.1 17) = _
      rw [e3, ct, n2]
    have y18 : (zm_numbered V).2.1 18 = upd (V.2.1 18) k (nI t) := by
      rw [em]
      show upd (V.2.1 18) (V.1 17).toNatClampNeg (V.1 3 - 1) = _
      rw [e3, n2, ck]
    have y19 : (zm_numbered V).2.1 19 = upd (V.2.1 19) k (V.2.1 20 (zq_b2 T a w)) := by
      rw [em]
      show upd (V.2.1 19) (V.1 17).toNatClampNeg (V.2.1 20 (zr_hash V).toNatClampNeg) = _
      rw [n2, ck, ch]
    have y20 : (zm_numbered V).2.1 20 = upd (V.2.1 20) (zq_b2 T a w) (nI k) := by
      rw [em]
      show upd (V.2.1 20) (zr_hash V).toNatClampNeg (V.1 17) = _
      rw [n2, ch]
    have yo : ∀ r : Nat, r ≠ 10 → r ≠ 18 → r ≠ 19 → r ≠ 20 → (zm_numbered V).2.1 r = V.2.1 r := by
      intro r a b c d
      rw [em]
      show (if r = 10 then _ else if r = 20 then _ else if r = 19 then _ else if r = 18 then _ else V.2.1 r) = _
      rw [if_neg a, if_neg d, if_neg c, if_neg b]
    have yl : (zm_numbered V).2.2 = V.2.2 := by rw [em]
    generalize zm_numbered V = Y at y1 y17 y10 y18 y19 y20 yo yl ⊢
    clear em
    have x1 : ∀ j : Nat, j ≠ 24 → X.1 j = Z.1 j := fun j hj => by rw [q2]; exact a2 j hj
    have xo : ∀ r : Nat, r ≠ 70 → r ≠ 20 → r ≠ 21 → r ≠ 22 → r ≠ 23 → X.2.1 r = Z.2.1 r := fun r b c d e f => (q3 r b).trans (a3 r c d e f)
    have hK2 : zq_K X Y (t + 1) (u + w) := zq_set6 d4 ht d6 v4 (x1 71 (by decide)) (x1 1 (by decide)) (xo 0 (by decide) (by decide) (by decide) (by decide) (by decide)) q1 (y1 3 (by decide)) (y1 15 (by decide)) (fun r b c d => yo r d (by omega) (by omega) (by omega)) y10 (yo 16 (by decide) (by decide) (by decide) (by decide)) yl
    obtain ⟨Q', Qk, Qo⟩ : ∃ Q' : Nat → Nat, Q' k = a ∧ ∀ j : Nat, j ≠ k → Q' j = Q j := ⟨fun j => if j = k then a else Q j, if_pos rfl, fun j h => if_neg h⟩
    obtain ⟨W', Wk, Wo⟩ : ∃ W' : Nat → Nat, W' k = w ∧ ∀ j : Nat, j ≠ k → W' j = W j := ⟨fun j => if j = k then w else W j, if_pos rfl, fun j h => if_neg h⟩
    refine ⟨⟨k + 1, by omega, hI3, ?_, ?_, ⟨hK2, d5, d6⟩, ⟨by rw [q2]; exact a1, y17, by omega, Q', W', fun j hj => ?_, ?_⟩, ?_⟩, x1, xo 60 (by decide) (by decide) (by decide) (by decide) (by decide), y1, yo 1 (by decide) (by decide) (by decide) (by decide)⟩
    · rw [x1 65 (by decide)]; exact d2
    · rw [y1 30 (by decide)]; exact d3
    · by_cases e : j = k
      · rw [e]
        refine ⟨t, u, by omega, ?_, ?_, ?_, ?_, ?_, ?_, ?_, ?_, ?_, fun i hi => ?_, ?_⟩
        · rw [q3 23 (by decide)]; exact a5.1
        · rw [y18, zq_upd, if_pos rfl]
        · rw [yo 5 (by decide) (by decide) (by decide) (by decide), Qk]; exact v5
        · rw [yo 8 (by decide) (by decide) (by decide) (by decide), Wk]; exact v8
        · rw [Qk, Wk]; exact ha
        · rw [Wk]; exact hw
        · rw [yo 12 (by decide) (by decide) (by decide) (by decide)]; exact v12
        · rw [yo 13 (by decide) (by decide) (by decide) (by decide), Wk]; exact v13
        · rw [Wk]; exact Nat.le_refl _
        · rw [Wk] at hi
          rw [yo 16 (by decide) (by decide) (by decide) (by decide), Qk]; exact hV i hi
        · rw [q3 22 (by decide), Qk, Wk]; exact a5.2.1
      · have hj2 : j < k := by omega
        obtain ⟨f, p, f1, f2, f3, f4, f5, f6, f7, f8, f9, f10, f11, f12⟩ := hN j hj2
        refine ⟨f, p, f1, ?_, ?_, ?_, ?_, ?_, ?_, ?_, ?_, ?_, fun i hi => ?_, ?_⟩
        · rw [q3 23 (by decide), (a4 j hj2).1]; exact f2
        · rw [y18, zq_upd, if_neg e]; exact f3
        · rw [yo 5 (by decide) (by decide) (by decide) (by decide), Qo j e]; exact f4
        · rw [yo 8 (by decide) (by decide) (by decide) (by decide), Wo j e]; exact f5
        · rw [Qo j e, Wo j e]; exact f6
        · rw [Wo j e]; exact f7
        · rw [yo 12 (by decide) (by decide) (by decide) (by decide)]; exact f8
        · rw [yo 13 (by decide) (by decide) (by decide) (by decide), Wo j e]; exact f9
        · rw [Wo j e]; exact f10
        · rw [Wo j e] at hi
          rw [yo 16 (by decide) (by decide) (by decide) (by decide), Qo j e]; exact f11 i hi
        · rw [q3 22 (by decide), (a4 j hj2).2.1, Qo j e, Wo j e]; exact f12
    · obtain ⟨c1, c2, c3, c4⟩ := hC
      have a6 : A.2.1 20 = upd (Z.2.1 20) (zq_b1 T a w) (nI k) := a6
      have g1 : ∀ (h m : Nat), m ≤ k → zq_last (fun j => zq_b1 T (Q' j) (W' j)) h m = zq_last (fun j => zq_b1 T (Q j) (W j)) h m := by
        intro h m hm
        refine zq_last_congr m fun j hj => ?_
        rw [Qo j (by omega), Wo j (by omega)]
      have g2 : ∀ (h m : Nat), m ≤ k → zq_last (fun j => zq_b2 T (Q' j) (W' j)) h m = zq_last (fun j => zq_b2 T (Q j) (W j)) h m := by
        intro h m hm
        refine zq_last_congr m fun j hj => ?_
        rw [Qo j (by omega), Wo j (by omega)]
      refine ⟨fun h hh => ?_, fun j hj => ?_, fun h hh => ?_, fun j hj => ?_⟩
      · show X.2.1 20 h = if zq_b1 T (Q' k) (W' k) = h then nI k else zq_last (fun j => zq_b1 T (Q' j) (W' j)) h k
        rw [q3 20 (by decide), a6, zq_upd, Qk, Wk, g1 h k (Nat.le_refl _), c1 h hh]
        by_cases e : h = zq_b1 T a w
        · rw [if_pos e, if_pos e.symm]
        · rw [if_neg e, if_neg (fun z => e z.symm)]
      · rw [q3 21 (by decide), g1 _ j (by omega)]
        by_cases e : j = k
        · rw [e, a5.2.2, Qk, Wk]
          exact c1 _ hb1
        · rw [(a4 j (by omega)).2.2, Qo j e, Wo j e]
          exact c2 j (by omega)
      · show Y.2.1 20 h = if zq_b2 T (Q' k) (W' k) = h then nI k else zq_last (fun j => zq_b2 T (Q' j) (W' j)) h k
        rw [y20, zq_upd, Qk, Wk, g2 h k (Nat.le_refl _), c3 h hh]
        by_cases e : h = zq_b2 T a w
        · rw [if_pos e, if_pos e.symm]
        · rw [if_neg e, if_neg (fun z => e z.symm)]
      · rw [y19, zq_upd, g2 _ j (by omega)]
        by_cases e : j = k
        · rw [if_pos e, e, Qk, Wk]
          exact c3 _ hb2
        · rw [if_neg e, Qo j e, Wo j e]
          exact c4 j (by omega)
    · rw [x1 58 (by decide), d12]
      unfold zr_last
      rw [y1 3 (by decide), yo 4 (by decide) (by decide) (by decide) (by decide)]
  · -- one that is known
    obtain ⟨i, i1, i2⟩ : ∃ i : Nat, i < k ∧ zq_lp (zq_P T Q W a w) k = nI i := by
      rcases zq_lp_v (zq_P T Q W a w) k (by omega) with z | z
      · exact absurd z c
      · exact z
    have en : zc_number Z (nI t) (zq_h1 T a w) = Z := by unfold zc_number; rw [ef, if_neg c]
    have ek : zk_number Z (nI t) (zq_h1 T a w) = nI i := by unfold zk_number; rw [ef, if_neg c, i2]
    rw [en, ek]
    have hI3 : zc_I (zc_tell Z 6 (nI i)) := zi_tell d1 _ _
    have r0 : zc_row Z t (Z.2.1 70) (fun w => Z.2.1 70 (t * 11 + w)) := ⟨fun i _ => rfl, fun i _ => rfl⟩
    obtain ⟨q1, q2, q3, q4⟩ := zc_row_tl 6 6 (nI i) rfl d4.1 hl1 hl2 (by decide) r0
    generalize zc_tell Z 6 (nI i) = X at q1 q2 q3 q4 hI3 ⊢
    have em : zm_numbered V = zm_a V 10 (V.1 3 - 1) (nI i) := by
      unfold zm_numbered
      dsimp only
      rw [er, if_neg c, i2]
    have y10 : (zm_numbered V).2.1 10 = upd (V.2.1 10) t (nI i) := by
      rw [em]
      show upd (V.2.1 10) (V.1 3 - 1).toNatClampNeg (nI i) = _
      rw [e3, nI_clamp (by omega)]
    have yo : ∀ r : Nat, r ≠ 10 → (zm_numbered V).2.1 r = V.2.1 r := by
      intro r a
      rw [em]
      show (if r = 10 then _ else V.2.1 r) = _
      rw [if_neg a]
    have y1 : (zm_numbered V).1 = V.1 := by rw [em]
    have yl : (zm_numbered V).2.2 = V.2.2 := by rw [em]
    generalize zm_numbered V = Y at y1 y10 yo yl ⊢
    clear em
    have hK2 : zq_K X Y (t + 1) (u + w) := zq_set6 d4 ht d6 v4 (by rw [q2]) (by rw [q2]) (q3 0 (by decide)) q1 (by rw [y1]) (by rw [y1]) (fun r b c d => yo r d) y10 (yo 16 (by decide)) yl
    refine ⟨⟨k, by omega, hI3, ?_, ?_, ⟨hK2, d5, d6⟩, ⟨by rw [q2]; exact n1, by rw [y1]; exact n2, n3, Q, W, fun j hj => ?_, ?_⟩, ?_⟩, fun j _ => by rw [q2], q3 60 (by decide), fun j _ => by rw [y1], yo 1 (by decide)⟩
    · rw [q2]; exact d2
    · rw [y1]; exact d3
    · obtain ⟨f, p, f1, f2, f3, f4, f5, f6, f7, f8, f9, f10, f11, f12⟩ := hN j hj
      refine ⟨f, p, f1, ?_, ?_, ?_, ?_, f6, f7, ?_, ?_, f10, fun i hi => ?_, ?_⟩
      · rw [q3 23 (by decide)]; exact f2
      · rw [yo 18 (by decide)]; exact f3
      · rw [yo 5 (by decide)]; exact f4
      · rw [yo 8 (by decide)]; exact f5
      · rw [yo 12 (by decide)]; exact f8
      · rw [yo 13 (by decide)]; exact f9
      · rw [yo 16 (by decide)]; exact f11 i hi
      · rw [q3 22 (by decide)]; exact f12
    · unfold zq_ch
      rw [q3 20 (by decide), q3 21 (by decide), yo 20 (by decide), yo 19 (by decide)]
      exact hC
    · rw [q2, d12]
      unfold zr_last
      rw [y1, yo 4 (by decide)]
