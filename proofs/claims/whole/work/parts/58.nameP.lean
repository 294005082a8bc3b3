/-! The piece: a name. -/
theorem zq_leave {T : Nat → Int32} {n : Nat} (hT : zq_T T n) {Z : zc_N} {V : zm_M} {b t k u : Nat} (hD : zq_D T n Z V t k u) (hc : zq_ct T n Z b) (hm : zq_mt T n V b) (hb : b ≤ n) (ht : t ≤ b) (hu : u ≤ b) : zq_S T n Z (zm_s V 21 0) b t k u ∧ ∀ F : zm_M, zg (zm_s V 21 0) F → zt (zm_fin (zm_gap (zm_s V 21 0) (zq_x T n b)) (zq_x T n b)) F := by
  have hn := hT.1
  have e : ∀ j : Nat, j ≠ 21 → (zm_s V 21 0).1 j = V.1 j := fun j hj => by
    show upd V.1 21 0 j = _
    rw [zq_upd, if_neg hj]
  have hm2 : zq_mt T n (zm_s V 21 0) b := zq_mt_eq hm (fun j hj => e j (by omega)) rfl
  refine ⟨⟨zq_D_frame hD hD.1 (fun _ => rfl) (fun _ _ => rfl) rfl (fun j hj => e j (by omega)), hc, hm2, hb, rfl, ht, hu⟩, fun F hF => ?_⟩
  unfold zg at hF
  rw [zr_here_at hT hm2 (by omega)] at hF
  exact hF
theorem zr_let_x : ∀ v : Nat, v < 256 → ¬ zr_letter (nI v) = 0 → zr_blank (nI v) = 0 ∧ ¬ nI v = 10 ∧ ¬ nI v = -1 ∧ ¬ nI v = 47 := by decide +kernel
theorem zw_find_ge {L : List (List Int32)} {f : Nat → Int32} {m : Int32} : ∀ i : Nat, i + L.length < 1000 → zw_find L f m (nI i) = -1 ∨ ∃ j : Nat, j < 1000 ∧ zw_find L f m (nI i) = nI j := by
  induction L with
  | nil => intro i _; exact Or.inl rfl
  | cons w L ih =>
    intro i hi
    rw [List.length_cons] at hi
    show (if nI w.length = m ∧ ∀ j, j < w.length → w.getD j 0 = f j then nI i else zw_find L f m (nI i + 1)) = -1 ∨ ∃ j : Nat, j < 1000 ∧ (if nI w.length = m ∧ ∀ j, j < w.length → w.getD j 0 = f j then nI i else zw_find L f m (nI i + 1)) = nI j
    by_cases c : nI w.length = m ∧ ∀ j, j < w.length → w.getD j 0 = f j
    · rw [if_pos c]; exact Or.inr ⟨i, by omega, rfl⟩
    · rw [if_neg c, nI_1]; exact ih (i + 1) (by omega)
theorem zq_name {T : Nat → Int32} {n : Nat} (hT : zq_T T n) {N : zc_N} {M : zm_M} {a t k u : Nat} (h : zq_S T n N M a t k u) (ha : a < n) (hl : ¬ zr_letter (zq_x T n a) = 0) : zq_out T n (zc_readName (zc_mark N)) M a := by
  have hn := hT.1
  have h9 := h
  obtain ⟨hD, hc, hm, -, h21, hta, hua⟩ := h9
  obtain ⟨v, v1, -, v3⟩ := zq_xv hT ha
  have h30 : M.1 30 < 0 := by rw [hD.2.2.1]; exact zq_m1
  obtain ⟨l1, l2, l3, l4⟩ := zr_let_x v v1 (by rw [← v3]; exact hl)
  rw [← v3] at l1 l2 l3 l4
  have eg : zm_gap M (zq_x T n a) = zm_s (zm_s (zm_begin M 0) 26 0) 21 1 := by
    rw [zm_gap_tok h30 hD.2.2.2.1.1.2.1 (by omega) l1 l2 l3 l4]
    unfold zm_gapT
    rw [if_pos hl]
  have m0 := zq_mid_0 h
  have m1 := zq_mid_fin (zq_mid_s m0 21 1 (by decide))
  rw [if_pos rfl] at m1
  obtain ⟨g1, g2, g3, g4⟩ := zq_mark h 0
  obtain ⟨b, b1, b2, b3, b4⟩ := zq_first (T := T) (n := n) zq_part (by decide) (n - a) a (by omega)
  have hpa : zq_part (zq_x T n a) := zq_part_r.mpr (Or.inl hl)
  have hab : a < b := by
    rcases Nat.lt_or_ge a b with q | q
    · exact q
    · have : b = a := by omega
      rw [this] at b4
      exact absurd hpa b4
  obtain ⟨Y, y1, y2⟩ := zt_name hT b2 hua hta (b - (a + 1)) (a + 1) _ (by omega) (by omega) (fun i x y => b3 i (by omega) y) m1
  obtain ⟨w, rfl⟩ : ∃ w : Nat, b = a + w := ⟨b - a, by omega⟩
  have hI0 : zc_I (zc_mark N) := g1.1
  obtain ⟨c1, c2, c3, c4, c5, c6⟩ := zc_name_at hT b2 b4 a zk_F w a u (zc_mark N) rfl (by unfold zk_F; omega) b3 hI0 g3 g1.2.2.2.1.1.2.2.2.1 (by omega) (Nat.le_refl _)
  rw [Nat.sub_self, Nat.add_sub_cancel_left] at c6
  have c6 : zk_hash zk_F (zc_mark N) 0 = zq_h1 T a w := c6
  have hF : zc_Fr (zc_mark N) (zc_name zk_F (zc_mark N)) := zf_name zk_F
  have hI : zc_I (zc_name zk_F (zc_mark N)) := zi_name zk_F hI0
  have g1s : (zc_mark N).1 54 = nI a ∧ (zc_mark N).1 57 = nI u := ⟨g2.1.1, g2.1.2.2.2⟩
  unfold zc_readName
  rw [c6]
  generalize zc_name zk_F (zc_mark N) = X at c1 c2 c3 c4 c5 hF hI ⊢
  have x57 : X.1 57 = nI u := (hF.1 57 (by decide) (by decide) (by decide) (by decide) (by decide) (by decide)).trans g1s.2
  have x54 : X.1 54 = nI a := (hF.1 54 (by decide) (by decide) (by decide) (by decide) (by decide) (by decide)).trans g1s.1
  have x65 : X.1 65 = 0 := c5.trans g1.2.1
  have ew : X.1 1 - X.1 57 = nI w := by rw [c2, x57, pk_sub (by omega), Nat.add_sub_cancel_left]
  have el : X.1 62 - X.1 54 = nI w := by rw [c1.2.2.1, x54, pk_sub (by omega), Nat.add_sub_cancel_left]
  have y9 := y1
  obtain ⟨yD, ⟨ys, s5, s6, s7⟩, ym, yz⟩ := y9
  have ey : Y.1 27 - Y.1 23 = nI w := by rw [ym.2.2.1, s5, pk_sub (by omega), Nat.add_sub_cancel_left]
  have ewd : zk_wordAt X = zr_wordOf Y := by
    unfold zk_wordAt zr_wordOf
    rw [ew, ey, x57, s5]
    refine zw_find_congr (by omega) (fun j hj => ?_) zw_words 0 (by decide)
    rw [nI_add, nI_add, zk_byteAt_at c2 (by omega) (by omega), c4 j hj, zr_byteAt_at hT ym (by omega)]
    unfold zq_x
    rw [if_pos (by omega)]
  have hput : ∀ kd : Int32, zc_putT X kd = zc_from X kd (nI w) := fun kd => by unfold zc_putT; rw [el]
  have hK := yD.2.2.2.1.1
  -- the reference's name
  have enm : ∀ kd : Int32, zr_wk (zr_wordOf Y) = kd → ∃ g : Nat → Int32, (∀ i : Nat, i < w → g i = zq_x T n (a + i)) ∧ zm_name Y = if ¬ zr_wordOf Y < 0 then zm_a (zm_keeps (zm_token Y kd (nI w) 0) g w) 13 (nI t) (nI w) else zm_numbered (zm_a (zm_keeps (zm_token Y kd (nI w) 0) g w) 13 (nI t) (nI w)) := by
    intro kd hkd
    obtain ⟨t1, -, t2, -⟩ := zm_token_at hK.2.1 (show t < 16384 by omega) kd (nI w) 0
    have e15 : (zm_token Y kd (nI w) 0).1 15 = nI u := by rw [t1, zq_upd, if_neg (by decide)]; exact hK.2.2.2.2.1
    have e33 : (zm_token Y kd (nI w) 0).1 3 = nI (t + 1) := by rw [t1, zq_upd, if_pos rfl]
    have to : ∀ j : Nat, j ≠ 3 → (zm_token Y kd (nI w) 0).1 j = Y.1 j := fun j hj => by rw [t1, zq_upd, if_neg hj]
    obtain ⟨k1, -⟩ := zm_keeps_at e15 (fun j => zr_byteAt (zm_token Y kd (nI w) 0) ((zm_token Y kd (nI w) 0).1 23 + nI j)) w (by omega)
    refine ⟨fun j => zr_byteAt (zm_token Y kd (nI w) 0) ((zm_token Y kd (nI w) 0).1 23 + nI j), fun i hi => ?_, ?_⟩
    · show zr_byteAt (zm_token Y kd (nI w) 0) ((zm_token Y kd (nI w) 0).1 23 + nI i) = _
      rw [to 23 (by decide), s5, nI_add]
      have hmt : zq_mt T n (zm_token Y kd (nI w) 0) (a + w) := zq_mt_eq ym (fun j hj => to j (by omega)) (t2 1 (by decide))
      exact zr_byteAt_at hT hmt (by omega)
    · unfold zm_name
      dsimp only
      rw [hkd, ey, if_neg (fun z => z (by rw [to 30 (by decide), yD.2.2.1]; exact zq_m1)), to 27 (by decide), to 23 (by decide), ey, nI_clamp (by omega)]
      rw [to 23 (by decide)] at k1
      rw [k1 3 (by decide), k1 27 (by decide), k1 23 (by decide), e33, to 27 (by decide), to 23 (by decide), ey, nI_pred]
  have run : ∀ (Z : zc_N) (V : zm_M) (k' : Nat), zm_name Y = V → zq_D T n Z V (t + 1) k' (u + w) → zq_ct T n Z (a + w) → zq_mt T n V (a + w) → zq_out T n Z M a := by
    intro Z V k' eV hZ hcZ hmV
    obtain ⟨S1, S2⟩ := zq_leave hT hZ hcZ hmV b2 (by omega) (by omega)
    refine Or.inl ⟨_, a + w, t + 1, k', u + w, hab, S1, fun F hF => ?_⟩
    unfold zg
    rw [zr_here_at hT hm (by omega), eg]
    refine y2 F ?_
    refine zt_step hT ym b2 (by rw [yD.2.2.1]; exact zq_m1) (zm_ok_1 yz (zm_T_at hK.2.1 (by omega)) ⟨a + w, a, u, ym.2.2.1, s5, hK.2.2.2.2.1, by omega, by omega, hua⟩ ?_ (zq_N hT yD (by omega))) ?_
    · rw [s5, ym.2.2.1]
      exact nI_lt hab (by omega)
    · have e : zm_step Y (zq_x T n (a + w)) = zm_gap (zm_s V 21 0) (zq_x T n (a + w)) := by
        unfold zm_step
        rw [yz, if_neg (by decide), if_neg (fun z => b4 (zq_part_r.mpr z.2)), if_pos rfl]
        unfold zm_named
        rw [eV]
      rw [e]
      exact S2 F hF
  by_cases cw : zr_wordOf Y < 0
  · have ewk : zk_wordKind X = -1 := by unfold zk_wordKind; rw [ewd, if_pos cw]
    rw [if_pos ewk, hput]
    obtain ⟨g, gg, en⟩ := enm 1 (by unfold zr_wk; rw [if_pos cw])
    rw [if_neg (fun z => z cw)] at en
    obtain ⟨p1, p2, p3, p4, p5, p6, p7, p8, p9, p10⟩ := zq_putB hT y1 (by omega) hua b2 hI hF x65 c2 c3 c4 1 (by decide) (by decide) gg rfl
    obtain ⟨z1, z2, z3, z4, z5, z6, z7, z8, z9, z10⟩ := zq_from hI hF hK.1 (show t < 16384 by omega) 1 (nI w)
    generalize zm_a (zm_keeps (zm_token Y 1 (nI w) 0) g w) 13 (nI t) (nI w) = V at p1 p2 p3 p5 p6 p7 p8 p9 p10 en
    have hmV : zq_mt T n V (a + w) := zq_mt_eq ym (fun j hj => p2 j (by omega) (by omega)) p3
    have hcZ : zq_ct T n (zc_from X 1 (nI w)) (a + w) := zq_ct_eq c1 (fun j hj => z8 j (by omega) (by omega)) (by rw [z4 60 (by decide) (by decide)]; exact (hF.2.1 60 (by decide)).symm)
    generalize zc_from X 1 (nI w) = Z at p1 p4 z1 z2 z3 z4 z5 z6 z7 z8 z9 z10 hcZ ⊢
    obtain ⟨⟨k', k1, q1⟩, q2, q3, q4, q5⟩ := zq_numbered hT p1 (by omega) yD.2.2.2.2.1.2.2.1 (by omega) b2 z9 z10 hmV (by rw [p2 23 (by decide) (by decide)]; exact s5) p4 p5 p6 p7 p8 p9 p10
    exact run _ _ k' en q1 (zq_ct_eq hcZ (fun j hj => q2 j (by omega)) q3) (zq_mt_eq hmV (fun j hj => q4 j (by omega)) q5)
  · obtain ⟨j, j1, j2⟩ : ∃ j : Nat, j < 1000 ∧ zr_wordOf Y = nI j := by
      rcases zw_find_ge (L := zw_words) (f := fun j => zr_byteAt Y (Y.1 23 + nI j)) (m := Y.1 27 - Y.1 23) 0 (by decide) with z | z
      · have z : zr_wordOf Y = -1 := z
        rw [z] at cw
        exact absurd zq_m1 cw
      · exact z
    have hkd : 10 + zr_wordOf Y = nI (10 + j) := by rw [j2]; exact nI_add 10 j
    have ewk : zk_wordKind X = nI (10 + j) := by unfold zk_wordKind; rw [ewd, if_neg cw, hkd]
    have hne : ¬ nI (10 + j) = -1 := by
      have : ∀ j : Nat, j < 1000 → ¬ nI (10 + j) = -1 := by decide +kernel
      exact this j j1
    rw [ewk, if_neg hne, hput]
    obtain ⟨g, gg, en⟩ := enm (nI (10 + j)) (by unfold zr_wk; rw [if_neg cw, hkd])
    rw [if_pos cw] at en
    obtain ⟨p1, p2, p3, p4, p5, p6, p7, p8, p9, p10⟩ := zq_putB hT y1 (by omega) hua b2 hI hF x65 c2 c3 c4 (nI (10 + j)) (fun z => absurd (z_injC (b := 2) (by omega) (by omega) z) (by omega)) (fun z => absurd (z_injC (b := 4) (by omega) (by omega) z) (by omega)) gg rfl
    obtain ⟨z1, z2, z3, z4, z5, z6, z7, z8, z9, z10⟩ := zq_from hI hF hK.1 (show t < 16384 by omega) (nI (10 + j)) (nI w)
    generalize zm_a (zm_keeps (zm_token Y (nI (10 + j)) (nI w) 0) g w) 13 (nI t) (nI w) = V at p1 p2 p3 p5 p6 p7 p8 p9 p10 en
    have hmV : zq_mt T n V (a + w) := zq_mt_eq ym (fun j hj => p2 j (by omega) (by omega)) p3
    have hcZ : zq_ct T n (zc_from X (nI (10 + j)) (nI w)) (a + w) := zq_ct_eq c1 (fun j hj => z8 j (by omega) (by omega)) (by rw [z4 60 (by decide) (by decide)]; exact (hF.2.1 60 (by decide)).symm)
    exact run _ _ k en p1 hcZ hmV
