/-! The piece: any number; and all pieces together. -/
section
variable {T : Nat → Int32} {n : Nat}
theorem zr_dig_t : ∀ v : Nat, v < 256 → ¬ zr_digit (nI v) = 0 → zr_blank (nI v) = 0 ∧ ¬ nI v = 10 ∧ ¬ nI v = -1 ∧ ¬ nI v = 47 ∧ zr_letter (nI v) = 0 ∧ ¬ nI v = 46 ∧ ¬ nI v = 95 := by decide +kernel
theorem zk_dec_f1 {N0 : zc_N} (hb0 : zk_base0 N0 = -1) (h : zk_dec1 N0 = 0) : zk_num0 N0 = -1 ∧ zc_num0 N0 = zc_dec1 N0 := by
  unfold zk_num0 zc_num0
  rw [if_pos hb0, if_pos hb0]
  unfold zk_dec zc_dec
  dsimp only
  rw [if_pos h, if_pos h]
  exact ⟨rfl, rfl⟩
theorem zk_dec_f2 {N0 : zc_N} (hb0 : zk_base0 N0 = -1) (h1 : zk_dec1 N0 = 1) (h : zk_dec2 (zc_dec1 N0) = 0) : zk_num0 N0 = -1 ∧ zc_num0 N0 = zc_dec2 (zc_dec1 N0) := by
  have n1 : ¬ zk_dec1 N0 = 0 := by rw [h1]; decide
  unfold zk_num0 zc_num0
  rw [if_pos hb0, if_pos hb0]
  unfold zk_dec zc_dec
  dsimp only
  rw [if_neg n1, if_neg n1, if_pos h, if_pos h]
  exact ⟨rfl, rfl⟩
theorem zq_numD (hT : zq_T T n) {N0 : zc_N} {Y : zm_M} {a t k u : Nat} {s : Int32} (hN : zq_nI T n N0 N0 a a u) (hm : zq_mid T n N0 Y (a + 1) a t k u s) (h26 : Y.1 26 = 0) (ha : a < n) (hta : t ≤ a) (hua : u ≤ a) (hd : ¬ zr_digit (zq_x T n a) = 0) (hs : (s = 2 ∧ zq_x T n a = 48) ∨ (s = 5 ∧ ¬ zq_x T n a = 48)) (hb0 : zk_base0 N0 = -1) : zq_res T n (zc_putNumber (zc_readNumber N0) (zk_readNumber N0)) Y (a + 1) := by
  have hn := hT.1
  have hct := hN.2.2.1
  obtain ⟨v, v1, -, v3⟩ := zq_xv hT ha
  obtain ⟨t1, t2, t3, t4, t5, t6, t7⟩ := zr_dig_t v v1 (by rw [← v3]; exact hd)
  rw [← v3] at t1 t2 t3 t4 t5 t6 t7
  have hh : zk_here N0 = zq_x T n a := zk_here_at hT hct (by omega)
  have n1 := zq_nI_keep hT hN ha t7 (by omega)
  have l1 : zq_nl T n a (a + 1 - a) = [zq_x T n a] := by
    rw [zq_nl_s (Nat.le_refl _) t7, Nat.sub_self]
    rfl
  have hdg : ¬ zk_digitOf (zq_x T n a) (nI 10) = -1 := fun z => hd ((zq_d10 hT).mp z)
  obtain ⟨-, -, -, d, d1, d2⟩ := zq_dig_facts hT hdg
  have ec1 : zc_dec1 N0 = zc_cont (nI 10) 65535 (zc_keepB N0) := by
    unfold zc_dec1
    rw [hh, if_neg t6]
    show zc_digits (nI 10) (65535 + 1) N0 = _
    rw [zc_digits_c, hh, if_neg hdg]
  have ek1 : zk_dec1 N0 = zk_cont (nI 10) 65535 (zc_keepB N0) := by
    unfold zk_dec1
    rw [hh, if_neg t6]
    show zk_digits (nI 10) (65535 + 1) N0 = _
    rw [zk_digits_c, hh, if_neg hdg]
  have hP : zq_P0i T n N0 a t k u (a + 1) Y := by
    refine ⟨s, hm, by omega, h26, ?_, fun z => ?_, fun _ => rfl⟩
    · rw [l1]
      refine ⟨Nat.le_refl _, fun i hi => ?_, ?_⟩
      · have : i = 0 := by
          have : [zq_x T n a].length = 1 := rfl
          omega
        subst this
        exact ⟨d, d1, d2, hd⟩
      · rcases hs with ⟨z1, z2⟩ | ⟨z1, z2⟩
        · exact Or.inr (Or.inl ⟨z1, z2, rfl⟩)
        · exact Or.inl ⟨z1, z2⟩
    · exfalso
      rcases hs with ⟨z1, -⟩ | ⟨z1, -⟩ <;> rw [z1] at z <;> exact absurd z (by decide)
  rcases zq_runI hT hua ha 65535 (a + 1) (zc_keepB N0) Y (by omega) n1 hP with ⟨r1, r2⟩ | ⟨r1, c1, Y1, r2, r3, ⟨s1, p1, p2, p3, p4, p5, p6⟩, r5, r6, r7⟩
  · rw [← ek1] at r1
    rw [← ec1] at r2
    obtain ⟨f1, f2⟩ := zk_dec_f1 hb0 r1
    rw [zq_numBad f1, f2]
    exact Or.inl r2
  · rw [← ek1] at r1
    rw [← ec1] at r3
    have hcl : c1 ≤ n := r3.2.2.2.2.2.2.2.2
    have hll := zq_nl_len T n a (c1 - a)
    have hh1 : zk_here (zc_dec1 N0) = zq_x T n c1 := zk_here_at hT r3.2.2.1 (by omega)
    have hl1 : (zc_dec1 N0).1 1 = nI (u + (zq_nl T n a (c1 - a)).length) := r3.2.2.2.2.2.1
    have h1 : N0.1 1 = nI u := by
      have := hN.2.2.2.2.2.1
      rw [Nat.sub_self] at this
      exact this
    have hdx := (zq_d10 hT).mp r5
    obtain ⟨q1, q2, q3, q4, q5, q6⟩ := zq_is_s p4
    refine zq_res_back (c' := c1) ?_ r2 r7
    by_cases c46 : zq_x T n c1 = 46
    · have hlt : c1 < n := zq_lt (by rw [c46]; decide)
      have n2 := zq_nI_keep hT r3 hlt (by rw [c46]; decide) (by omega)
      have hh2 : zk_here (zc_keepB (zc_dec1 N0)) = zq_x T n (c1 + 1) := zk_here_at hT n2.2.2.1 (by omega)
      have hlen : (zq_nl T n a (c1 + 1 - a)).length = (zq_nl T n a (c1 - a)).length + 1 := by rw [zq_nl_s (by omega) (by rw [c46]; decide), List.length_append]; rfl
      have hR := zn_dot p1.2.2.2 q5 p3 c46
      have hm2 := zq_mid_s p1 21 6 (by decide)
      rw [if_pos rfl] at hm2
      obtain ⟨Y2, y1, y2, y3, y4⟩ := zq_nst hT p1 q1 hcl p2 hua hR hm2
      have y2 : Y2.1 26 = 0 := y2.trans p3
      have ec2 : zc_dec2 (zc_dec1 N0) = if zk_isDigit (zq_x T n (c1 + 1)) = 0 then zc_keepB (zc_dec1 N0) else zc_digits 10 zk_F (zc_keepB (zc_dec1 N0)) := by
        unfold zc_dec2
        rw [hh1, if_pos c46, hh2]
      have ek2 : zk_dec2 (zc_dec1 N0) = if zk_isDigit (zq_x T n (c1 + 1)) = 0 then 1 else zk_digits 10 zk_F (zc_keepB (zc_dec1 N0)) := by
        unfold zk_dec2
        rw [hh1, if_pos c46, hh2]
      refine zq_res_back (c' := c1 + 1) ?_ (by omega) y4
      by_cases dg : zk_isDigit (zq_x T n (c1 + 1)) = 0
      · rw [if_pos dg] at ec2 ek2
        exact zq_decE hT hta hua ha h1 hb0 rfl r1 hl1 (by omega) ek2 ec2 n2 y1 y2 (by omega) dg (Or.inr ⟨by omega, Or.inl rfl⟩)
      · rw [if_neg dg] at ec2 ek2
        have dg' : ¬ zk_digitOf (zq_x T n (c1 + 1)) (nI 10) = -1 := fun z => dg ((zq_d10 hT).mp z)
        rcases (zq_runF hT hua ha).2 zk_F (c1 + 1) _ Y2 (by unfold zk_F; omega) n2 ⟨6, y1, by omega, Or.inr ⟨Or.inl rfl, y2, dg'⟩⟩ with ⟨w1, w2⟩ | ⟨w1, c2, Y3, w2, w3, ⟨g1, g2, g3⟩, w5, w6, w7⟩
        · have w1 : zk_dec2 (zc_dec1 N0) = 0 := ek2.trans w1
          obtain ⟨f1, f2⟩ := zk_dec_f2 hb0 r1 w1
          rw [zq_numBad f1, f2, ec2]
          exact Or.inl w2
        · have w1 : zk_dec2 (zc_dec1 N0) = 1 := ek2.trans w1
          have hmo := zq_nl_mono T n a (c1 + 1 - a) (c2 - a) (by omega)
          exact zq_res_back (c' := c2) (zq_decE hT hta hua ha h1 hb0 rfl r1 hl1 (by omega) w1 ec2 w3 g1 g3 g2 ((zq_d10 hT).mp w5) (Or.inr ⟨by omega, Or.inr ⟨rfl, w6⟩⟩)) w2 w7
    · have ec2 : zc_dec2 (zc_dec1 N0) = zc_dec1 N0 := by
        unfold zc_dec2
        rw [hh1, if_neg c46]
      have ek2 : zk_dec2 (zc_dec1 N0) = 1 := by
        unfold zk_dec2
        rw [hh1, if_neg c46]
      refine zq_decE hT hta hua ha h1 hb0 rfl r1 hl1 (by omega) ek2 ec2 r3 p1 p3 p2 hdx (Or.inl ⟨rfl, p4, p5, fun z hl he => ?_, r6, c46⟩)
      have hc1 := p6 z
      subst hc1
      have hx48 : zq_x T n a = 48 := by
        rcases hs with ⟨-, y⟩ | ⟨y1, y2⟩
        · exact y
        · exfalso
          rcases p4.2.2 with ⟨w, -⟩ | ⟨-, w, -⟩ | ⟨w, -⟩ | ⟨w, -⟩
          · rw [w] at z; exact absurd z (by decide)
          · rw [l1] at w; exact y2 w
          · rw [w] at z; exact absurd z (by decide)
          · rw [w] at z; exact absurd z (by decide)
      have hbl : zk_baseL (zq_x T n (a + 1)) = -1 := by
        unfold zk_base0 at hb0
        rw [hh, if_pos hx48, zk_next_at hT hct ha] at hb0
        exact hb0
      have hlt : a + 1 < n := zq_lt (fun y => hl (by rw [y]; decide))
      obtain ⟨w, w1, -, w3⟩ := zq_xv hT hlt
      rw [w3] at hbl hdx r6 hl he ⊢
      rcases zr_radix_base w w1 ⟨hdx, r6, hl, he⟩ with y | y
      · exact y.2
      · exact absurd hbl y.2.2
theorem zq_numP (hT : zq_T T n) {N : zc_N} {M : zm_M} {a t k u : Nat} (h : zq_S T n N M a t k u) (ha : a < n) (hx : ¬ zr_digit (zq_x T n a) = 0 ∨ (zq_x T n a = 46 ∧ ¬ zr_digit (zq_x T n (a + 1)) = 0)) : zq_out T n (zc_putNumber (zc_readNumber (zc_mark N)) (zk_readNumber (zc_mark N))) M a := by
  have hn := hT.1
  have h9 := h
  obtain ⟨hD, hc, hm, -, h21, hta, hua⟩ := h9
  have h30 : M.1 30 < 0 := by rw [hD.2.2.1]; exact zq_m1
  have m0 := zq_mid_0 h
  obtain ⟨g1, g2, g3, g4⟩ := zq_mark h 0
  have hN : zq_nI T n (zc_mark N) (zc_mark N) a a u := zq_nI_0 hT g1.1 g3 g1.2.1 g1.2.2.2.1.1.2.2.2.1 (by omega)
  have hh : zk_here (zc_mark N) = zq_x T n a := zk_here_at hT g3 (by omega)
  by_cases hd : ¬ zr_digit (zq_x T n a) = 0
  · obtain ⟨v, v1, -, v3⟩ := zq_xv hT ha
    obtain ⟨t1, t2, t3, t4, t5, t6, t7⟩ := zr_dig_t v v1 (by rw [← v3]; exact hd)
    rw [← v3] at t1 t2 t3 t4 t5 t6 t7
    obtain ⟨s, hs, eg⟩ : ∃ s : Int32, ((s = 2 ∧ zq_x T n a = 48) ∨ (s = 5 ∧ ¬ zq_x T n a = 48)) ∧ zm_gap M (zq_x T n a) = zm_s (zm_s (zm_begin M 0) 26 0) 21 s := by
      rw [zm_gap_tok h30 hD.2.2.2.1.1.2.1 (by omega) t1 t2 t3 t4]
      unfold zm_gapT
      rw [if_neg (fun z => z t5)]
      by_cases z : zq_x T n a = 48
      · rw [if_pos z]; exact ⟨2, Or.inl ⟨rfl, z⟩, rfl⟩
      · rw [if_neg z, if_pos hd]; exact ⟨5, Or.inr ⟨rfl, z⟩, rfl⟩
    have m1 := zq_mid_fin (zq_mid_s m0 21 s (by decide))
    rw [if_pos rfl] at m1
    have y26 : (zm_fin (zm_s (zm_s (zm_begin M 0) 26 0) 21 s) (zq_x T n a)).1 26 = 0 := by
      rw [zm_fin_1 (by decide) (by decide) (by decide)]
      rfl
    have hg : ∀ F : zm_M, zt (zm_fin (zm_s (zm_s (zm_begin M 0) 26 0) 21 s) (zq_x T n a)) F → zg M F := by
      intro F hF
      unfold zg
      rw [zr_here_at hT hm (by omega), eg]
      exact hF
    generalize zm_fin (zm_s (zm_s (zm_begin M 0) 26 0) 21 s) (zq_x T n a) = Y at m1 y26 hg
    refine zq_res_out hT (c := a + 1) ?_ (by omega) hg
    by_cases hb : zk_base0 (zc_mark N) = -1
    · exact zq_numD hT hN m1 y26 ha hta hua hd hs hb
    · have hx48 : zq_x T n a = 48 := by
        apply Decidable.byContradiction
        intro z
        apply hb
        unfold zk_base0
        rw [hh, if_neg z]
      have s2 : s = 2 := by
        rcases hs with z | z
        · exact z.1
        · exact absurd hx48 z.2
      rw [s2] at m1
      refine zq_numR hT hN m1 y26 ha hta hua hx48 (fun z => hb ?_)
      unfold zk_base0
      rw [hh, if_pos hx48, zk_next_at hT g3 ha]
      exact z
  · obtain ⟨hx46, hdn⟩ : zq_x T n a = 46 ∧ ¬ zr_digit (zq_x T n (a + 1)) = 0 := by
      rcases hx with z | z
      · exact absurd z hd
      · exact z
    have eg : zm_gap M (zq_x T n a) = zm_s (zm_s (zm_begin M 0) 26 0) 21 12 := by
      rw [hx46, zm_gap_tok h30 hD.2.2.2.1.1.2.1 (by omega) (by decide) (by decide) (by decide) (by decide)]
      unfold zm_gapT
      rw [if_neg (by decide), if_neg (by decide), if_neg (by decide), if_pos rfl]
    have m1 := zq_mid_fin (zq_mid_s m0 21 12 (by decide))
    rw [if_pos rfl] at m1
    have hg : ∀ F : zm_M, zt (zm_fin (zm_s (zm_s (zm_begin M 0) 26 0) 21 12) (zq_x T n a)) F → zg M F := by
      intro F hF
      unfold zg
      rw [zr_here_at hT hm (by omega), eg]
      exact hF
    generalize zm_fin (zm_s (zm_s (zm_begin M 0) 26 0) 21 12) (zq_x T n a) = Y at m1 hg
    have hdg : ¬ zk_digitOf (zq_x T n (a + 1)) (nI 10) = -1 := fun z => hdn ((zq_d10 hT).mp z)
    obtain ⟨hlt, -, x95, -⟩ := zq_dig_facts hT hdg
    have m2 := zq_mid_fin (zq_mid_s (zq_mid_s m1 21 7 (by decide)) 26 0 (by decide))
    rw [if_pos rfl, if_neg (by decide)] at m2
    have hg2 : ∀ F : zm_M, zt (zm_fin (zm_s (zm_s Y 21 7) 26 0) (zq_x T n (a + 1))) F → zg M F := by
      intro F hF
      refine hg F (zt_step hT m1.2.2.1 (by omega) (by rw [m1.1.2.2.1]; exact zq_m1) (zm_ok_12 (Or.inl m1.2.2.2) (zm_T_at m1.1.2.2.2.1.1.2.1 m1.1.2.2.2.1.2.1)) ?_)
      have e : zm_step Y (zq_x T n (a + 1)) = zm_s (zm_s Y 21 7) 26 0 := by
        rw [zm_step_12 (Or.inl m1.2.2.2)]
        unfold zm_dots
        rw [if_pos m1.2.2.2]
        unfold zm_dotsA
        rw [if_pos hdn]
      rw [e]
      exact hF
    have y26 : (zm_fin (zm_s (zm_s Y 21 7) 26 0) (zq_x T n (a + 1))).1 26 = 0 := by
      rw [zm_fin_1 (by decide) (by decide) (by decide)]
      rfl
    generalize zm_fin (zm_s (zm_s Y 21 7) 26 0) (zq_x T n (a + 1)) = Y2 at m2 hg2 y26
    have hdn' : ¬ zk_isDigit (zq_x T n (a + 1)) = 0 := hdn
    have hb0 : zk_base0 (zc_mark N) = -1 := by unfold zk_base0; rw [hh, hx46, if_neg (by decide)]
    have n1 := zq_nI_keep hT hN ha (by rw [hx46]; decide) (by omega)
    have n2 := zq_nI_keep hT n1 hlt x95 (by omega)
    have hh1 : zk_here (zc_keepB (zc_mark N)) = zq_x T n (a + 1) := zk_here_at hT n1.2.2.1 (by omega)
    have ec1 : zc_dec1 (zc_mark N) = zc_mark N := by unfold zc_dec1; rw [hh, if_pos hx46]
    have ek1 : zk_dec1 (zc_mark N) = 1 := by unfold zk_dec1; rw [hh, if_pos hx46]
    have ec2 : zc_dec2 (zc_mark N) = zc_cont (nI 10) 65535 (zc_keepB (zc_keepB (zc_mark N))) := by
      unfold zc_dec2
      rw [hh, if_pos hx46, hh1, if_neg hdn']
      show zc_digits (nI 10) (65535 + 1) (zc_keepB (zc_mark N)) = _
      rw [zc_digits_c, hh1, if_neg hdg]
    have ek2 : zk_dec2 (zc_mark N) = zk_cont (nI 10) 65535 (zc_keepB (zc_keepB (zc_mark N))) := by
      unfold zk_dec2
      rw [hh, if_pos hx46, hh1, if_neg hdn']
      show zk_digits (nI 10) (65535 + 1) (zc_keepB (zc_mark N)) = _
      rw [zk_digits_c, hh1, if_neg hdg]
    have h1 : (zc_mark N).1 1 = nI u := g1.2.2.2.1.1.2.2.2.1
    refine zq_res_out hT (c := a + 1 + 1) ?_ (by omega) hg2
    rcases (zq_runF hT hua ha).1 65535 (a + 1 + 1) _ Y2 (by omega) n2 ⟨m2, by omega, y26⟩ with ⟨w1, w2⟩ | ⟨w1, c2, Y3, w2, w3, ⟨p1, p2, p3⟩, w5, w6, w7⟩
    · rw [← ek2] at w1
      rw [← ec2] at w2
      obtain ⟨f1, f2⟩ := zk_dec_f2 hb0 ek1 (by rw [ec1]; exact w1)
      rw [zq_numBad f1, f2, ec1]
      exact Or.inl w2
    · rw [← ek2] at w1
      rw [← ec2] at w3
      have hmo := zq_nl_mono T n a (a + 1 - a) (c2 - a) (by omega)
      have l1 : (zq_nl T n a (a + 1 - a)).length = 1 := by
        rw [zq_nl_s (Nat.le_refl _) (by rw [hx46]; decide), Nat.sub_self]
        rfl
      exact zq_res_back (c' := c2) (zq_decE hT hta hua ha h1 hb0 ec1 ek1 (l1 := 0) h1 (by omega) w1 rfl w3 p1 p3 p2 ((zq_d10 hT).mp w5) (Or.inr ⟨by omega, Or.inr ⟨rfl, w6⟩⟩)) w2 w7
/-- every piece -/
theorem zq_piece (hT : zq_T T n) (N : zc_N) (M : zm_M) (a t k u : Nat) (h : zq_S T n N M a t k u) (ha : a < n) : zq_out T n (if zk_pass N = 0 then zc_readToken (zc_pass N) else zc_pass N) M a := by
  have hn := hT.1
  have hct := h.2.1
  have hta := h.2.2.2.2.2.1
  have hh : zk_here N = zq_x T n a := zk_here_at hT hct (by omega)
  have hnx : zk_next N = zq_x T n (a + 1) := zk_next_at hT hct ha
  have e1 : zk_pass N = if zq_x T n a = 10 ∨ (zq_x T n a = 32 ∨ zq_x T n a = 9 ∨ zq_x T n a = 13) ∨ (zq_x T n a = 47 ∧ (zq_x T n (a + 1) = 47 ∨ zq_x T n (a + 1) = 42)) then 1 else 0 := by unfold zk_pass; rw [hh, hnx]
  have e2 : zc_pass N = if zq_x T n a = 10 then zc_newl (zc_mark N) else if zq_x T n a = 32 ∨ zq_x T n a = 9 ∨ zq_x T n a = 13 then zc_step (zc_mark N) else if zq_x T n a = 47 ∧ zq_x T n (a + 1) = 47 then zc_lineC (zc_mark N) else if zq_x T n a = 47 ∧ zq_x T n (a + 1) = 42 then zc_longC (zc_mark N) else zc_mark N := by unfold zc_pass; rw [hh, hnx]
  rw [e1, e2]
  by_cases c10 : zq_x T n a = 10
  · rw [if_pos (Or.inl c10), if_neg (by decide), if_pos c10]
    exact zq_newl hT h c10 ha
  · rw [if_neg c10]
    by_cases cb : zq_x T n a = 32 ∨ zq_x T n a = 9 ∨ zq_x T n a = 13
    · rw [if_pos (Or.inr (Or.inl cb)), if_neg (by decide), if_pos cb]
      exact zq_blank hT h (by unfold zr_blank; rw [if_pos cb]; decide) ha
    · rw [if_neg cb]
      by_cases cl : zq_x T n a = 47 ∧ zq_x T n (a + 1) = 47
      · rw [if_pos (Or.inr (Or.inr ⟨cl.1, Or.inl cl.2⟩)), if_neg (by decide), if_pos cl]
        exact zq_lineP hT h ha cl.1 cl.2
      · rw [if_neg cl]
        by_cases cg : zq_x T n a = 47 ∧ zq_x T n (a + 1) = 42
        · rw [if_pos (Or.inr (Or.inr ⟨cg.1, Or.inr cg.2⟩)), if_neg (by decide), if_pos cg]
          exact zq_longP hT h ha cg.1 cg.2
        · have np : ¬ (zq_x T n a = 10 ∨ (zq_x T n a = 32 ∨ zq_x T n a = 9 ∨ zq_x T n a = 13) ∨ (zq_x T n a = 47 ∧ (zq_x T n (a + 1) = 47 ∨ zq_x T n (a + 1) = 42))) := by
            rintro (z | z | ⟨z, y | y⟩)
            · exact c10 z
            · exact cb z
            · exact cl ⟨z, y⟩
            · exact cg ⟨z, y⟩
          rw [if_neg np, if_pos rfl, if_neg cg]
          -- a token
          obtain ⟨g1, g2, g3, g4⟩ := zq_mark h 0
          have hhm : zk_here (zc_mark N) = zq_x T n a := zk_here_at hT g3 (by omega)
          have hnm : zk_next (zc_mark N) = zq_x T n (a + 1) := zk_next_at hT g3 ha
          have hfu : zk_isFull (zc_mark N) = 0 := by
            unfold zk_isFull
            rw [g1.2.2.2.1.1.1]
            have : t < 16384 := by omega
            rw [if_pos (show nI t < 16384 from nI_lt this (by decide))]
          have e3 : zc_readToken (zc_mark N) = if ¬ zr_letter (zq_x T n a) = 0 then zc_readName (zc_mark N) else if (¬ zr_digit (zq_x T n a) = 0 ∨ (zq_x T n a = 46 ∧ ¬ zr_digit (zq_x T n (a + 1)) = 0)) then zc_putNumber (zc_readNumber (zc_mark N)) (zk_readNumber (zc_mark N)) else if zq_x T n a = 39 then zc_putRune (zc_rune (zc_mark N)) (zk_rune (zc_mark N)) else if zq_x T n a = 34 then zc_putString (zc_str zk_F (zc_step (zc_mark N))) (zk_str zk_F (zc_step (zc_mark N))) else if zq_x T n a = 96 then zc_putString (zc_raw zk_F (zc_step (zc_mark N))) (zk_raw zk_F (zc_step (zc_mark N))) else zc_readSign (zc_mark N) (zq_x T n a) := by
            unfold zc_readToken zk_isNum
            rw [if_neg (fun z => z hfu), hhm, hnm]
            rfl
          rw [e3]
          by_cases k1 : ¬ zr_letter (zq_x T n a) = 0
          · rw [if_pos k1]
            exact zq_name hT h ha k1
          · rw [if_neg k1]
            have k1 : zr_letter (zq_x T n a) = 0 := Decidable.byContradiction k1
            by_cases k2 : ¬ zr_digit (zq_x T n a) = 0 ∨ (zq_x T n a = 46 ∧ ¬ zr_digit (zq_x T n (a + 1)) = 0)
            · rw [if_pos k2]
              exact zq_numP hT h ha k2
            · rw [if_neg k2]
              have k2a : zr_digit (zq_x T n a) = 0 := Decidable.byContradiction (fun z => k2 (Or.inl z))
              by_cases k3 : zq_x T n a = 39
              · rw [if_pos k3]
                exact zq_runeP hT h ha k3
              · rw [if_neg k3]
                by_cases k4 : zq_x T n a = 34
                · rw [if_pos k4]
                  exact zq_strP hT h ha k4
                · rw [if_neg k4]
                  by_cases k5 : zq_x T n a = 96
                  · rw [if_pos k5]
                    exact zq_rawP hT h ha k5
                  · rw [if_neg k5]
                    by_cases k6 : zq_x T n a = 46
                    · exact zq_dots hT h ha k6 (Decidable.byContradiction (fun z => k2 (Or.inr ⟨k6, z⟩)))
                    · exact zq_sign hT h ha (by unfold zr_blank; rw [if_neg cb]) c10 k1 k2a k6 k4 k3 k5 (fun z => ⟨fun y => cl ⟨z, y⟩, fun y => cg ⟨z, y⟩⟩)
end
