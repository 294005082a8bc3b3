/-! The pieces: a sign, dots. -/
theorem zt_err {T : Nat → Int32} {n c : Nat} {Y : zm_M} (hm : zq_mt T n Y c) (h30 : Y.1 30 = -1) (hc : c ≤ 60000) (x : Int32) : ∃ F : zm_M, F.1 30 = nI c ∧ zt (zm_fin (zm_error Y) x) F := by
  have e : (zm_fin (zm_error Y) x).1 30 = nI c := by
    rw [zm_fin_1 (by decide) (by decide) (by decide)]
    unfold zm_error
    rw [if_pos (by rw [h30]; exact zq_m1)]
    show upd Y.1 30 (Y.1 27) 30 = _
    rw [zq_upd, if_pos rfl, hm.2.2.1]
  exact ⟨_, e, zt_stop (by rw [e]; exact nI_pos (by omega))⟩
theorem zq_refuse {T : Nat → Int32} {n a e : Nat} (hT : zq_T T n) {W : zc_N} {M : zm_M} (hI : zc_I W) (hc : zq_ct T n W e) (he : e ≤ n) (hF : ∃ F : zm_M, F.1 30 = nI e ∧ zg M F) : zq_out T n (zc_refuse W) M a := by
  have hn := hT.1
  obtain ⟨F, f1, f2⟩ := hF
  refine Or.inr ⟨?_, zi_refuse hI, e, F, by omega, ?_, f1, f2⟩
  · show ¬ upd W.1 65 1 65 = 0
    rw [zq_upd, if_pos rfl]
    decide
  · show upd W.1 65 1 62 = _
    rw [zq_upd, if_neg (by decide)]
    exact hc.2.2.1
theorem zq_nm1 : ∀ v : Nat, v < 256 → ¬ nI v = -1 := by decide +kernel
theorem zq_pos : ∀ v : Nat, v < 256 → 0 < v → v < 128 → 0 < nI v ∧ nI v < 128 := by decide +kernel
theorem zq_sign {T : Nat → Int32} {n : Nat} (hT : zq_T T n) {N : zc_N} {M : zm_M} {a t k u : Nat} (h : zq_S T n N M a t k u) (ha : a < n) (hb : zr_blank (zq_x T n a) = 0) (h10 : ¬ zq_x T n a = 10) (hl : zr_letter (zq_x T n a) = 0) (hd : zr_digit (zq_x T n a) = 0) (h46 : ¬ zq_x T n a = 46) (h34 : ¬ zq_x T n a = 34) (h39 : ¬ zq_x T n a = 39) (h96 : ¬ zq_x T n a = 96) (h47 : zq_x T n a = 47 → ¬ zq_x T n (a + 1) = 47 ∧ ¬ zq_x T n (a + 1) = 42) : zq_out T n (zc_readSign (zc_mark N) (zq_x T n a)) M a := by
  have hn := hT.1
  have h9 := h
  obtain ⟨hD, hc, hm, -, h21, hta, hua⟩ := h9
  obtain ⟨v, v1, -, v3⟩ := zq_xv hT ha
  have h30 : M.1 30 < 0 := by rw [hD.2.2.1]; exact zq_m1
  have m0 := zq_mid_0 h
  obtain ⟨g1, g2, g3, g4⟩ := zq_mark h 0
  have hm1 : ¬ zq_x T n a = -1 := by rw [v3]; exact zq_nm1 v v1
  have hv46 : ¬ v = 46 := fun z => h46 (by rw [v3, z]; rfl)
  by_cases c1 : zk_one (zq_x T n a) = -1
  · unfold zc_readSign
    rw [if_pos c1]
    have s1 : zw_s1 (nI v) = -1 := by
      rcases zw_one v v1 with z | z
      · exact z.2
      · rw [v3] at c1; exact absurd c1 z.1
    have h47' : ¬ zq_x T n a = 47 := fun z => by rw [z] at c1; exact absurd c1 (by decide)
    have eg : zm_gap M (zq_x T n a) = zm_error (zm_s (zm_begin M 0) 26 0) := by
      rw [zm_gap_tok h30 hD.2.2.2.1.1.2.1 (by omega) hb h10 hm1 h47']
      unfold zm_gapT
      rw [if_neg (fun z => z hl), if_neg (fun z => by rw [z] at hd; exact absurd hd (by decide)), if_neg (fun z => z hd), if_neg h46, if_neg (fun z => by rcases z with z | z; exact h34 z; exact h39 z), if_neg h96, if_neg]
      rintro ⟨-, -, z⟩
      apply z
      rw [m0.2.2.1.2.2.1]
      have this : zr_signOf (zm_s (zm_begin M 0) 26 0) (nI a) 0 (zq_x T n a) = zw_s1 (nI v) := zr_sg (a := a) (m := 0) hT m0.2.2.1 (by omega) (by omega) (zw_f1 (nI v)) (zq_x T n a) hm1 (fun j hj => absurd hj (by omega)) v3.symm
      rw [this, s1]
      exact zq_m1
    obtain ⟨F, f1, f2⟩ := zt_err m0.2.2.1 m0.1.2.2.1 (by omega) (zq_x T n a)
    refine zq_refuse hT g1.1 g3 (by omega) ⟨F, f1, ?_⟩
    unfold zg
    rw [zr_here_at hT hm (by omega), eg]
    exact f2
  · obtain ⟨o1, o2, o3, o4, o5, o6, o7⟩ : ¬ zk_one (nI v) = -1 ∧ v < 128 ∧ 0 < v ∧ ¬ zw_s1 (nI v) < 0 ∧ zk_one (nI v) = 40 + zw_s1 (nI v) ∧ ¬ zk_one (nI v) = 2 ∧ ¬ zk_one (nI v) = 4 := by
      rcases zw_one v v1 with z | z
      · rw [v3] at c1; exact absurd z.1 c1
      · exact z
    have ec : zc_readSign (zc_mark N) (zq_x T n a) = zc_sign2 (zc_step (zc_mark N)) (nI v) := by
      unfold zc_readSign
      rw [if_neg c1, v3]
    rw [ec]
    have hcs := zc_step_at hT g3 ha
    have run : ∀ Y : zm_M, zq_mid T n (zc_mark N) Y (a + 1) a t k u 14 → (∀ F : zm_M, zt (zm_fin (zm_sign Y (zq_x T n (a + 1))) (zq_x T n (a + 1))) F → zg M F) → zq_out T n (zc_sign2 (zc_step (zc_mark N)) (nI v)) M a := by
      intro Y m1 hF
      obtain ⟨V, b, r1, r2, r3⟩ := zq_signrun hT (W := zc_step (zc_mark N)) ⟨zq_D_step m1.1, zq_st_step m1.2.1, m1.2.2.1, m1.2.2.2⟩ hcs ha hta hua v1 v3 o1 hv46
      exact Or.inl ⟨V, b, t + 1, k, u, r1, r2, fun F hV => hF F (r3 F hV)⟩
    by_cases c47 : zq_x T n a = 47
    · have eg : zm_gap M (zq_x T n a) = zm_s (zm_s (zm_begin M 0) 26 0) 21 17 := by rw [c47]; exact zm_gap_47 h30
      have m1 := zq_mid_fin (zq_mid_s m0 21 17 (by decide))
      rw [if_pos rfl] at m1
      obtain ⟨n1, n2⟩ := h47 c47
      have hK := m1.1.2.2.2.1
      have m2 := zq_mid_s m1 21 14 (by decide)
      rw [if_pos rfl] at m2
      refine run _ m2 (fun F hF => ?_)
      unfold zg
      rw [zr_here_at hT hm (by omega), eg]
      refine zt_step hT m1.2.2.1 ha (by rw [m1.1.2.2.1]; exact zq_m1) (zm_ok_14 (t := t) (Or.inr m1.2.2.2) (zm_T_at hK.1.2.1 hK.2.1) m1.2.2.1.2.2.1 m1.2.1.2.1 (by omega) (by omega)) ?_
      rw [zm_step_17 m1.2.2.2]
      generalize zm_fin (zm_s (zm_s (zm_begin M 0) 26 0) 21 17) (zq_x T n a) = Y at m1 hK hF ⊢
      have htt : t < 16384 := by omega
      have hf : Y.1 3 < 16384 := by rw [hK.1.2.1]; exact nI_lt htt (by decide)
      have e : zm_slash Y (zq_x T n (a + 1)) = zm_sign (zm_s Y 21 14) (zq_x T n (a + 1)) := by
        unfold zm_slash zr_room zm_room
        rw [if_neg (fun z => by rcases z with z | z; exact n1 z; exact n2 z), if_pos hf, if_pos hf, if_neg (by decide)]
      rw [e]
      exact hF
    · have eg : zm_gap M (zq_x T n a) = zm_s (zm_s (zm_begin M 0) 26 0) 21 14 := by
        rw [zm_gap_tok h30 hD.2.2.2.1.1.2.1 (by omega) hb h10 hm1 c47]
        unfold zm_gapT
        rw [if_neg (fun z => z hl), if_neg (fun z => by rw [z] at hd; exact absurd hd (by decide)), if_neg (fun z => z hd), if_neg h46, if_neg (fun z => by rcases z with z | z; exact h34 z; exact h39 z), if_neg h96, if_pos]
        refine ⟨by rw [v3]; exact (zq_pos v v1 o3 o2).1, by rw [v3]; exact (zq_pos v v1 o3 o2).2, ?_⟩
        rw [m0.2.2.1.2.2.1]
        have this : zr_signOf (zm_s (zm_begin M 0) 26 0) (nI a) 0 (zq_x T n a) = zw_s1 (nI v) := zr_sg (a := a) (m := 0) hT m0.2.2.1 (by omega) (by omega) (zw_f1 (nI v)) (zq_x T n a) hm1 (fun j hj => absurd hj (by omega)) v3.symm
        rw [this]
        exact o4
      have m1 := zq_mid_fin (zq_mid_s m0 21 14 (by decide))
      rw [if_pos rfl] at m1
      have hK := m1.1.2.2.2.1
      refine run _ m1 (fun F hF => ?_)
      unfold zg
      rw [zr_here_at hT hm (by omega), eg]
      refine zt_step hT m1.2.2.1 ha (by rw [m1.1.2.2.1]; exact zq_m1) (zm_ok_14 (t := t) (Or.inl m1.2.2.2) (zm_T_at hK.1.2.1 hK.2.1) m1.2.2.1.2.2.1 m1.2.1.2.1 (by omega) (by omega)) ?_
      rw [zm_step_14 m1.2.2.2]
      exact hF
theorem zm_ok_12 {M : zm_M} (h : M.1 21 = 12 ∨ M.1 21 = 13) (hT : zm_T M) : zm_ok M := by
  refine ⟨0, 0, hT, ?_, ?_, ?_, ?_⟩
  · rcases h with h | h <;> rw [h] <;> exact fun z => absurd z (by decide)
  · rcases h with h | h <;> rw [h] <;> exact fun _ z => absurd (by decide) z
  · rcases h with h | h <;> rw [h] <;> exact fun z => absurd z (by decide)
  · rcases h with h | h <;> rw [h] <;> exact fun z => absurd z (by decide)
theorem zm_step_12 {M : zm_M} (h : M.1 21 = 12 ∨ M.1 21 = 13) (x : Int32) : zm_step M x = zm_dots M x := by
  unfold zm_step
  rcases h with h | h <;> rw [h, if_neg (by decide), if_neg (fun z => absurd z.1 (by decide)), if_neg (by decide), if_neg (by decide), if_pos (by decide)]
/-- a step that was made -/
theorem zt_inv {T : Nat → Int32} {n a : Nat} {X F : zm_M} (hT : zq_T T n) (h : zq_mt T n X a) (ha : a ≤ n) (h30 : X.1 30 < 0) (hF : zt X F) : zt (zm_fin (zm_step X (zq_x T n a)) (zq_x T n a)) F := by
  have hn := hT.1
  obtain ⟨m, hm⟩ := hF
  obtain ⟨m', -, -, -, h4⟩ := zm_run_go hm (by rw [h.1, h.2.2.1]; exact fun z => absurd (z_lit (by omega) (by omega) z) (by omega)) h30
  unfold zm_turn at h4
  rw [zr_here_at hT h (by omega)] at h4
  exact ⟨m', h4⟩
theorem zm_ext {X Y : zm_M} (h1 : ∀ j : Nat, X.1 j = Y.1 j) (h2 : X.2 = Y.2) : X = Y := Prod.ext (funext h1) h2
theorem zq_dots {T : Nat → Int32} {n : Nat} (hT : zq_T T n) {N : zc_N} {M : zm_M} {a t k u : Nat} (h : zq_S T n N M a t k u) (ha : a < n) (hx : zq_x T n a = 46) (hd : zr_digit (zq_x T n (a + 1)) = 0) : zq_out T n (zc_readSign (zc_mark N) (zq_x T n a)) M a := by
  have hn := hT.1
  have h9 := h
  obtain ⟨hD, hc, hm, -, h21, hta, hua⟩ := h9
  have h30 : M.1 30 < 0 := by rw [hD.2.2.1]; exact zq_m1
  have m0 := zq_mid_0 h
  obtain ⟨g1, g2, g3, g4⟩ := zq_mark h 0
  have eg46 : ∀ (Z : zm_M) (t : Nat), Z.1 30 < 0 → Z.1 3 = nI t → t < 16384 → zm_gap Z 46 = zm_s (zm_s (zm_begin Z 0) 26 0) 21 12 := by
    intro Z t z1 z2 z3
    rw [zm_gap_tok z1 z2 z3 (by decide) (by decide) (by decide) (by decide)]
    unfold zm_gapT
    rw [if_neg (by decide), if_neg (by decide), if_neg (by decide), if_pos rfl]
  have eg : zm_gap M (zq_x T n a) = zm_s (zm_s (zm_begin M 0) 26 0) 21 12 := by rw [hx]; exact eg46 M t h30 hD.2.2.2.1.1.2.1 (by omega)
  have m1 := zq_mid_fin (zq_mid_s m0 21 12 (by decide))
  rw [if_pos rfl] at m1
  have y26 : (zm_fin (zm_s (zm_s (zm_begin M 0) 26 0) 21 12) (zq_x T n a)).1 26 = 0 := by
    rw [zm_fin_1 (by decide) (by decide) (by decide)]
    rfl
  have hcs := zc_step_at hT g3 ha
  have ec : zc_readSign (zc_mark N) (zq_x T n a) = zc_sign2 (zc_step (zc_mark N)) (nI 46) := by
    unfold zc_readSign
    rw [hx, if_neg (by decide)]
    rfl
  rw [ec]
  have hg : ∀ F : zm_M, zt (zm_fin (zm_dotsA (zm_fin (zm_s (zm_s (zm_begin M 0) 26 0) 21 12) (zq_x T n a)) (zq_x T n (a + 1))) (zq_x T n (a + 1))) F → zg M F := by
    intro F hF
    unfold zg
    rw [zr_here_at hT hm (by omega), eg]
    refine zt_step hT m1.2.2.1 ha (by rw [m1.1.2.2.1]; exact zq_m1) (zm_ok_12 (Or.inl m1.2.2.2) (zm_T_at m1.1.2.2.2.1.1.2.1 m1.1.2.2.2.1.2.1)) ?_
    rw [zm_step_12 (Or.inl m1.2.2.2)]
    unfold zm_dots
    rw [if_pos m1.2.2.2]
    exact hF
  generalize zm_fin (zm_s (zm_s (zm_begin M 0) 26 0) 21 12) (zq_x T n a) = Y at m1 y26 hg
  have mW : zq_mid T n (zc_step (zc_mark N)) Y (a + 1) a t k u 12 := ⟨zq_D_step m1.1, zq_st_step m1.2.1, m1.2.2.1, m1.2.2.2⟩
  generalize zc_step (zc_mark N) = W at hcs mW ⊢
  obtain ⟨wy, wy1, wy2, wy3⟩ := zq_x255 (T := T) (n := n) (i := a + 1) hT
  obtain ⟨wz, wz1, wz2, wz3⟩ := zq_x255 (T := T) (n := n) (i := a + 1 + 1) hT
  have hh : zk_here W = zq_x T n (a + 1) := zk_here_at hT hcs (by omega)
  have e2 : zk_2 W (nI 46) = (nI 46 <<< ((8 : Int32) &&& 31)) ||| (zq_x T n (a + 1) &&& 255) := by unfold zk_2; rw [hh]
  have hnx : zk_next W = zq_x T n (a + 1 + 1) := by
    rcases Nat.lt_or_ge (a + 1) n with q | q
    · exact zk_next_at hT hcs q
    · have : n = a + 1 := by omega
      exact zk_next_le hT hcs (by omega)
  have e3 : zk_3 W (nI 46) = (((nI 46 <<< ((8 : Int32) &&& 31)) ||| (zq_x T n (a + 1) &&& 255)) <<< ((8 : Int32) &&& 31)) ||| (zq_x T n (a + 1 + 1) &&& 255) := by unfold zk_3; rw [e2, hnx]
  have c2 : (nI 46, zq_x T n (a + 1)) ∉ zw_P2 := by
    intro z
    have : ∀ p ∈ zw_P2, ¬ p.1 = 46 := by decide +kernel
    exact this _ z rfl
  have one : (nI 46, zq_x T n (a + 1), zq_x T n (a + 1 + 1)) ∉ zw_P3 → zc_sign2 W (nI 46) = zc_putT W 86 := by
    intro c3
    unfold zc_sign2
    rw [e3, zk_three_at (by decide) wy1 wz1 _ _ wy2 wz2 wy3 wz3 c3, if_pos rfl, e2, zk_two_at (by decide) wy1 _ wy2 wy3 c2, if_pos rfl]
    rfl
  have hP3 : (nI 46, zq_x T n (a + 1), zq_x T n (a + 1 + 1)) ∈ zw_P3 → zq_x T n (a + 1) = 46 ∧ zq_x T n (a + 1 + 1) = 46 := by
    intro z
    have : ∀ p ∈ zw_P3, p.1 = 46 → p.2.1 = 46 ∧ p.2.2 = 46 := by decide +kernel
    exact this _ z rfl
  have e1 : Y.1 27 - Y.1 23 = 1 := by
    rw [m1.2.2.1.2.2.1, m1.2.1.2.1, pk_sub (by omega), Nat.add_sub_cancel_left]
    rfl
  have el : W.1 62 - W.1 54 = 1 := by
    rw [hcs.2.2.1, mW.2.1.1.1, pk_sub (by omega), Nat.add_sub_cancel_left]
    rfl
  by_cases cy : zq_x T n (a + 1) = 46
  · have hlt : a + 1 < n := zq_lt (by rw [cy]; decide)
    have m2 := zq_mid_fin (zq_mid_s mW 21 13 (by decide))
    rw [if_pos rfl] at m2
    have y26' : (zm_fin (zm_s Y 21 13) (zq_x T n (a + 1))).1 26 = 0 := by
      rw [zm_fin_1 (by decide) (by decide) (by decide)]
      exact y26
    have hg2 : ∀ F : zm_M, zt (zm_fin (zm_dots (zm_fin (zm_s Y 21 13) (zq_x T n (a + 1))) (zq_x T n (a + 1 + 1))) (zq_x T n (a + 1 + 1))) F → zg M F := by
      intro F hF
      refine hg F ?_
      have e : zm_dotsA Y (zq_x T n (a + 1)) = zm_s Y 21 13 := by
        unfold zm_dotsA
        rw [if_neg (fun z => z hd), if_pos cy]
      rw [e]
      refine zt_step hT m2.2.2.1 (by omega) (by rw [m2.1.2.2.1]; exact zq_m1) (zm_ok_12 (Or.inr m2.2.2.2) (zm_T_at m2.1.2.2.2.1.1.2.1 m2.1.2.2.2.1.2.1)) ?_
      rw [zm_step_12 (Or.inr m2.2.2.2)]
      exact hF
    generalize zm_fin (zm_s Y 21 13) (zq_x T n (a + 1)) = Z at m2 y26' hg2
    have n12 : ¬ Z.1 21 = 12 := by rw [m2.2.2.2]; decide
    by_cases cz : zq_x T n (a + 1 + 1) = 46
    · have hlt3 : a + 1 + 1 < n := zq_lt (by rw [cz]; decide)
      have hcs2 := zc_step_at hT hcs hlt
      have hcs3 := zc_step_at hT hcs2 hlt3
      have ez : zk_three (zk_3 W (nI 46)) = 77 := by
        rw [e3, cy, cz]
        decide +kernel
      have es : zc_sign2 W (nI 46) = zc_putT (zc_step (zc_step W)) 77 := by
        unfold zc_sign2
        rw [ez, if_neg (by decide)]
      rw [es]
      have hD3 := zq_D_step (zq_D_step m2.1)
      have hs3 := zq_st_step (zq_st_step m2.2.1)
      generalize zc_step (zc_step W) = W3 at hcs3 hD3 hs3 ⊢
      have el3 : W3.1 62 - W3.1 54 = 3 := by
        rw [hcs3.2.2.1, hs3.1.1, pk_sub (by omega), show a + 1 + 1 + 1 - a = 3 from by omega]
        rfl
      have ep : zc_putT W3 77 = zc_from W3 77 3 := by unfold zc_putT; rw [el3]
      rw [ep]
      have hDs : zq_D T n W3 (zm_s Z 27 (Z.1 27 + 1)) t k u := zq_D_frame hD3 hD3.1 (fun _ => rfl) (fun _ _ => rfl) rfl (fun j hj => by
        show upd Z.1 27 _ j = _
        rw [zq_upd, if_neg (by omega)])
      have hss : zq_st T n W3 (zm_s Z 27 (Z.1 27 + 1)) a u := hs3
      have D2 := zq_D_put hDs hss (show t < 16384 by omega) 77 3 (by decide) (by decide)
      obtain ⟨-, r2, r3, r4, r5, -, -⟩ := zc_from_at hD3.1 hD3.2.2.2.1.1.1 (show t < 16384 by omega) 77 3
      obtain ⟨t1, -, t2, -⟩ := zm_token_at hDs.2.2.2.1.1.2.1 (show t < 16384 by omega) 77 3 0
      have ed : zm_dots Z (zq_x T n (a + 1 + 1)) = zm_s (zm_s (zm_token (zm_s Z 27 (Z.1 27 + 1)) 77 3 0) 27 ((zm_token (zm_s Z 27 (Z.1 27 + 1)) 77 3 0).1 27 - 1)) 21 0 := by
        unfold zm_dots
        rw [if_neg n12, if_pos cz]
      have e27 : (zm_token (zm_s Z 27 (Z.1 27 + 1)) 77 3 0).1 27 - 1 = Z.1 27 := by
        rw [t1, zq_upd, if_neg (by decide)]
        show Z.1 27 + 1 - 1 = Z.1 27
        rw [m2.2.2.1.2.2.1, nI_1, nI_pred]
      rw [e27] at ed
      have to : ∀ j : Nat, j ≠ 3 → j ≠ 27 → (zm_token (zm_s Z 27 (Z.1 27 + 1)) 77 3 0).1 j = Z.1 j := by
        intro j j1 j2
        rw [t1, zq_upd, if_neg j1]
        show upd Z.1 27 _ j = _
        rw [zq_upd, if_neg j2]
      have t21 := t2 1 (by decide)
      generalize zm_token (zm_s Z 27 (Z.1 27 + 1)) 77 3 0 = V at D2 ed to t21
      have vv : ∀ j : Nat, j ≠ 21 → j ≠ 27 → (zm_s (zm_s V 27 (Z.1 27)) 21 0).1 j = V.1 j := by
        intro j j1 j2
        show upd (upd V.1 27 _) 21 _ j = _
        rw [zq_upd, if_neg j1, zq_upd, if_neg j2]
      have hmV : zq_mt T n (zm_s (zm_s V 27 (Z.1 27)) 21 0) (a + 1 + 1) := by
        refine zq_mt_eq m2.2.2.1 (fun j hj => ?_) t21
        by_cases c : j = 27
        · subst c; rfl
        · rw [vv j (by omega) c, to j (by omega) c]
      have hDV : zq_D T n (zc_from W3 77 3) (zm_s (zm_s V 27 (Z.1 27)) 21 0) (t + 1) k u := zq_D_frame D2 D2.1 (fun _ => rfl) (fun _ _ => rfl) rfl (fun j hj => vv j (by omega) (by omega))
      obtain ⟨S1, S2⟩ := zq_arrive hT hDV (zq_ct_eq hcs3 (fun j hj => r4 j (by omega) (by omega)) (r5 60 (by decide))) hmV hlt3 rfl (by omega) (by omega)
      refine Or.inl ⟨_, _, t + 1, k, u, by omega, S1, fun F hF => hg2 F ?_⟩
      rw [ed]
      exact S2 F hF
    · rw [one (fun z => cz (hP3 z).2)]
      have ep : zc_putT W 86 = zc_from W 86 1 := by unfold zc_putT; rw [el]
      rw [ep]
      have D2 := zq_D_put m2.1 m2.2.1 (show t < 16384 by omega) 86 1 (by decide) (by decide)
      obtain ⟨-, r2, r3, r4, r5, -, -⟩ := zc_from_at m2.1.1 m2.1.2.2.2.1.1.1 (show t < 16384 by omega) 86 1
      obtain ⟨t1, -, t2, -⟩ := zm_token_at m2.1.2.2.2.1.1.2.1 (show t < 16384 by omega) 86 1 0
      have to : ∀ j : Nat, j ≠ 3 → (zm_token Z 86 1 0).1 j = Z.1 j := by
        intro j j1
        rw [t1, zq_upd, if_neg j1]
      have t21 := t2 1 (by decide)
      have ed : zm_dots Z (zq_x T n (a + 1 + 1)) = zm_dotsA (zm_s (zm_s (zm_s (zm_token Z 86 1 0) 23 ((zm_token Z 86 1 0).1 23 + 1)) 25 ((zm_token Z 86 1 0).1 25 + 1)) 21 12) (zq_x T n (a + 1 + 1)) := by
        unfold zm_dots
        rw [if_neg n12, if_neg cz]
      have v30 : (zm_token Z 86 1 0).1 30 = -1 := D2.2.2.1
      have v3 : (zm_token Z 86 1 0).1 3 = nI (t + 1) := D2.2.2.2.1.1.2.1
      generalize zm_token Z 86 1 0 = V at D2 ed to t21 v30 v3
      have vv : ∀ j : Nat, j ≠ 21 → j ≠ 27 → (zm_s (zm_s V 21 0) 27 (nI (a + 1))).1 j = V.1 j := by
        intro j j1 j2
        show upd (upd V.1 21 _) 27 _ j = _
        rw [zq_upd, if_neg j2, zq_upd, if_neg j1]
      have l1 : zq_ln T n (a + 1 + 1) = zq_ln T n (a + 1) := by
        show (if _ then _ else _) = _
        rw [if_neg (by rw [cy]; decide)]
      have l2 : zq_ls T n (a + 1 + 1) = zq_ls T n (a + 1) := by
        show (if _ then _ else _) = _
        rw [if_neg (by rw [cy]; decide)]
      have l3 : zq_ln T n (a + 1) = zq_ln T n a := by
        show (if _ then _ else _) = _
        rw [if_neg (by rw [hx]; decide)]
      have l4 : zq_ls T n (a + 1) = zq_ls T n a := by
        show (if _ then _ else _) = _
        rw [if_neg (by rw [hx]; decide)]
      obtain ⟨mz1, mz2, mz3, mz4, mz5⟩ := m2.2.2.1
      have hmV : zq_mt T n (zm_s (zm_s V 21 0) 27 (nI (a + 1))) (a + 1) := by
        refine ⟨?_, ?_, rfl, ?_, ?_⟩
        · rw [vv 2 (by decide) (by decide), to 2 (by decide)]; exact mz1
        · show ∀ i : Nat, i < n → V.2.1 1 i = T i
          rw [t21]; exact mz2
        · rw [vv 28 (by decide) (by decide), to 28 (by decide), mz4, l1]
        · rw [vv 29 (by decide) (by decide), to 29 (by decide), mz5, l2]
      have hDV : zq_D T n (zc_from W 86 1) (zm_s (zm_s V 21 0) 27 (nI (a + 1))) (t + 1) k u := zq_D_frame D2 D2.1 (fun _ => rfl) (fun _ _ => rfl) rfl (fun j hj => vv j (by omega) (by omega))
      refine Or.inl ⟨zm_s (zm_s V 21 0) 27 (nI (a + 1)), a + 1, t + 1, k, u, by omega, ⟨hDV, zq_ct_eq hcs (fun j hj => r4 j (by omega) (by omega)) (r5 60 (by decide)), hmV, by omega, rfl, by omega, by omega⟩, fun F hF => hg2 F ?_⟩
      rw [ed]
      unfold zg at hF
      rw [zr_here_at hT hmV (by omega), cy, eg46 _ (t + 1) (by rw [hDV.2.2.1]; exact zq_m1) hDV.2.2.2.1.1.2.1 (by omega)] at hF
      have key : zm_fin (zm_s (zm_s (zm_begin (zm_s (zm_s V 21 0) 27 (nI (a + 1))) 0) 26 0) 21 12) 46 = zm_s (zm_s (zm_s V 23 (V.1 23 + 1)) 25 (V.1 25 + 1)) 21 12 := by
        refine zm_ext (fun j => ?_) rfl
        unfold zm_fin zm_lf
        rw [if_neg (by decide)]
        show upd (upd (upd (upd (upd (upd (upd (upd (upd V.1 21 0) 27 (nI (a + 1))) 21 0) 23 (nI (a + 1))) 24 (V.1 28)) 25 (nI (a + 1) - V.1 29 + 1)) 26 0) 21 12) 27 (nI (a + 1) + 1) j = upd (upd (upd V.1 23 (V.1 23 + 1)) 25 (V.1 25 + 1)) 21 12 j
        simp only [zq_upd]
        by_cases j27 : j = 27
        · subst j27
          rw [if_pos rfl, if_neg (by decide), if_neg (by decide), if_neg (by decide), to 27 (by decide), mz3, nI_1]
        · by_cases j21 : j = 21
          · rw [if_neg j27, if_pos j21, if_pos j21]
          · by_cases j26 : j = 26
            · subst j26
              rw [if_neg (by decide), if_neg (by decide), if_pos rfl, if_neg (by decide), if_neg (by decide), if_neg (by decide), to 26 (by decide), y26']
            · by_cases j25 : j = 25
              · subst j25
                rw [if_neg (by decide), if_neg (by decide), if_neg (by decide), if_pos rfl, if_neg (by decide), if_pos rfl, to 29 (by decide), to 25 (by decide), mz5, m2.2.1.2.2.2, l2, l4, ← nI_1 a]
                rw [Int32.sub_eq_add_neg, Int32.sub_eq_add_neg, Int32.add_assoc (nI a) 1, Int32.add_comm 1, ← Int32.add_assoc (nI a)]
              · by_cases j24 : j = 24
                · subst j24
                  rw [if_neg (by decide), if_neg (by decide), if_neg (by decide), if_neg (by decide), if_pos rfl, if_neg (by decide), if_neg (by decide), if_neg (by decide), to 28 (by decide), to 24 (by decide), mz4, m2.2.1.2.2.1, l1, l3]
                · by_cases j23 : j = 23
                  · subst j23
                    rw [if_neg (by decide), if_neg (by decide), if_neg (by decide), if_neg (by decide), if_neg (by decide), if_pos rfl, if_neg (by decide), if_neg (by decide), if_pos rfl, to 23 (by decide), m2.2.1.2.1, nI_1]
                  · rw [if_neg j27, if_neg j21, if_neg j26, if_neg j25, if_neg j24, if_neg j23, if_neg j21, if_neg j27, if_neg j21, if_neg j21, if_neg j25, if_neg j23]
      rw [key] at hF
      have hm9 : zq_mt T n (zm_s (zm_s (zm_s V 23 (V.1 23 + 1)) 25 (V.1 25 + 1)) 21 12) (a + 1 + 1) := by
        refine zq_mt_eq m2.2.2.1 (fun j hj => ?_) t21
        show upd (upd (upd V.1 23 _) 25 _) 21 _ j = _
        rw [zq_upd, if_neg (by omega), zq_upd, if_neg (by omega), zq_upd, if_neg (by omega), to j (by omega)]
      have := zt_inv hT hm9 (by omega) (by show V.1 30 < 0; rw [v30]; exact zq_m1) hF
      rw [zm_step_12 (Or.inl rfl)] at this
      unfold zm_dots at this
      rw [if_pos (show (zm_s (zm_s (zm_s V 23 (V.1 23 + 1)) 25 (V.1 25 + 1)) 21 12).1 21 = 12 from rfl)] at this
      exact this
  · rw [one (fun z => cy (hP3 z).1)]
    obtain ⟨S1, S2⟩ := zq_tokS hT mW.1 mW.2.1 hcs mW.2.2.1 (by omega) ha hta hua 86 (by decide) (by decide)
    refine Or.inl ⟨_, _, t + 1, k, u, by omega, S1, fun F hF => hg F ?_⟩
    have ed : zm_dotsA Y (zq_x T n (a + 1)) = zm_gap (zm_s (zm_token Y 86 (Y.1 27 - Y.1 23) 0) 21 0) (zq_x T n (a + 1)) := by
      unfold zm_dotsA
      rw [if_neg (fun z => z hd), if_neg cy, e1]
    rw [ed]
    exact S2 F hF
