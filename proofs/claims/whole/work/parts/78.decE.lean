/-! The piece: a number in base 10. -/
section
variable {T : Nat → Int32} {n : Nat} {N0 : zc_N} {a t k u : Nat}
theorem zq_is_v {s : Int32} {L : List Int32} (h : zq_is s L) {i : Nat} (hi : i < L.length) : ∃ v : Nat, v < 128 ∧ L.getD i 0 = nI v ∧ ¬ zr_digit (nI v) = 0 := by
  obtain ⟨x, x1, x2, x3⟩ := h.2.1 i hi
  obtain ⟨ch, ch1, -, ch3⟩ := z_worth16 (show x < 16 by omega) x2
  exact ⟨ch, ch1, ch3, by rw [← ch3]; exact x3⟩
theorem zq_int_dec {s : Int32} {L : List Int32} (h : zq_is s L) (h4 : ¬ s = 4) {b : Nat} (hb : nI b = zr_st4 s) (hb2 : b = 8 ∨ b = 10) : zp_int (fun i => vp_nar .byte (L.getD (i - u) 0).toInt8.toInt32) u L.length 0 b := by
  have pl : ∀ i : Nat, i < L.length → ∃ v : Nat, v < 128 ∧ L.getD i 0 = nI v ∧ ¬ zr_digit (nI v) = 0 ∧ vp_nar .byte (L.getD (u + i - u) 0).toInt8.toInt32 = nI v := by
    intro i hi
    obtain ⟨v, v1, v2, v3⟩ := zq_is_v h hi
    exact ⟨v, v1, v2, v3, by rw [Nat.add_sub_cancel_left, v2, zq_pl128 v v1]⟩
  refine ⟨h.1, by omega, Or.inl rfl, fun z => by omega, fun z => absurd z (by decide), fun _ hw => ?_, fun i _ hi => ?_⟩
  · obtain ⟨v, v1, v2, v3, v4⟩ := pl 1 hw
    show ¬ 57 < vp_nar .byte (L.getD (u + 1 - u) 0).toInt8.toInt32 ∧ ¬ 9 < zr_worth (vp_nar .byte (L.getD (u + 1 - u) 0).toInt8.toInt32)
    rw [v4]
    obtain ⟨d1, d2, d3, d4, d5, d6⟩ := zq_dig_nv v v1 v3
    exact ⟨d4, d5⟩
  · obtain ⟨v, v1, v2, v3, v4⟩ := pl i hi
    obtain ⟨d1, d2, d3, d4, d5, d6⟩ := zq_dig_nv v v1 v3
    refine ⟨v - 48, ?_, ?_⟩
    · rcases h.2.2 with ⟨z, -⟩ | ⟨z, -⟩ | ⟨z, z2, z3⟩ | ⟨z, -⟩
      · have : b = 10 := z_injC (b := 10) (by omega) (by omega) (by rw [hb, z]; decide)
        omega
      · have : b = 10 := z_injC (b := 10) (by omega) (by omega) (by rw [hb, z]; decide)
        omega
      · have : b = 8 := z_injC (b := 8) (by omega) (by omega) (by rw [hb, z]; decide)
        rcases Nat.eq_zero_or_pos i with y | y
        · subst y
          rw [z2] at v2
          have : v = 48 := (z_injC (b := v) (a := 48) (by omega) (by omega) v2).symm
          omega
        · have := d6 (by rw [← v2]; exact z3 i y hi)
          omega
      · exact absurd z h4
    · show zr_worth (vp_nar .byte (L.getD (u + i - u) 0).toInt8.toInt32) = _
      rw [v4, d1]
theorem zr_part_0 {x : Int32} (hd : zr_digit x = 0) : (zk_isPart x = 0 → zr_letter x = 0) ∧ (¬ zk_isPart x = 0 → ¬ zr_letter x = 0) := by
  have := @zq_part_r x
  constructor
  · intro z
    apply Decidable.byContradiction
    intro y
    exact (this.mpr (Or.inl y)) z
  · intro z
    rcases this.mp z with y | y
    · exact y
    · exact absurd hd y
theorem zr_e_x {x : Int32} (h : ¬ (x = 101 ∨ x = 69)) : zr_e x = 0 := by unfold zr_e; rw [if_neg h]
theorem zq_decE (hT : zq_T T n) (hta : t ≤ a) (hua : u ≤ a) (ha : a < n) (h1 : N0.1 1 = nI u) (hb0 : zk_base0 N0 = -1) {X1 : zc_N} (e1 : zc_dec1 N0 = X1) (hd1 : zk_dec1 N0 = 1) {l1 : Nat} (hl1 : X1.1 1 = nI (u + l1)) (hl9 : l1 ≤ 10240) (hd2 : zk_dec2 X1 = 1) {X2 : zc_N} (e2 : zc_dec2 X1 = X2) {c : Nat} (hX : zq_nI T n N0 X2 a c u) {Y : zm_M} {s : Int32} (hm : zq_mid T n N0 Y c a t k u s) (h26 : Y.1 26 = 0) (hac : a < c) (hdx : zr_digit (zq_x T n c) = 0) (hc : (X2 = X1 ∧ zq_is s (zq_nl T n a (c - a)) ∧ (s = 3 → 2 ≤ (zq_nl T n a (c - a)).length) ∧ (s = 2 → ¬ zr_letter (zq_x T n c) = 0 → zr_e (zq_x T n c) = 0 → zr_radix (zq_x T n c) = 0) ∧ ¬ zq_x T n c = 95 ∧ ¬ zq_x T n c = 46) ∨ (l1 < (zq_nl T n a (c - a)).length ∧ (s = 6 ∨ (s = 7 ∧ ¬ zq_x T n c = 95)))) : zq_res T n (zc_putNumber (zc_readNumber N0) (zk_readNumber N0)) Y c := by
  have hn := hT.1
  have hcl : c ≤ n := hX.2.2.2.2.2.2.2.2
  have hll := zq_nl_len T n a (c - a)
  have hs : (¬ s < 2 ∧ ¬ 11 < s) ∧ ¬ s = 11 ∧ ¬ s = 10 := by
    rcases hc with ⟨-, z, -⟩ | ⟨-, z⟩
    · obtain ⟨q1, q2, -, -, -, q6⟩ := zq_is_s z
      exact ⟨q1, q2, q6⟩
    · rcases z with z | z
      · rw [z]; decide
      · rw [z.1]; decide
  have ek0 : zk_num0 N0 = zk_dec N0 := by unfold zk_num0; rw [if_pos hb0]
  have ec0 : zc_num0 N0 = zc_dec N0 := by unfold zc_num0; rw [if_pos hb0]
  have nd1 : ¬ zk_dec1 N0 = 0 := by rw [hd1]; decide
  have nd2 : ¬ zk_dec2 X1 = 0 := by rw [hd2]; decide
  have ek : zk_dec N0 = if zk_dec3 X2 = 0 then -1 else if X1.1 1 - N0.1 1 < (zc_dec3 X2).1 1 - N0.1 1 then 0 else zk_octal (zc_dec3 X2) (N0.1 1) (X1.1 1 - N0.1 1) := by
    unfold zk_dec
    dsimp only
    rw [e1, if_neg nd1, e2, if_neg nd2]
  have ec : zc_dec N0 = if zk_dec3 X2 = 0 then zc_dec3 X2 else if X1.1 1 - N0.1 1 < (zc_dec3 X2).1 1 - N0.1 1 then zc_dec3 X2 else zc_octal (zc_dec3 X2) (N0.1 1) (X1.1 1 - N0.1 1) := by
    unfold zc_dec
    dsimp only
    rw [e1, if_neg nd1, e2, if_neg nd2]
  have el1 : X1.1 1 - N0.1 1 = nI l1 := by rw [hl1, h1, pk_sub (by omega), Nat.add_sub_cancel_left]
  rcases zq_dec3 hT hua ha hX hm hs hac h26 with ⟨r1, r2⟩ | ⟨r1, c', Y', r2, r3, r4, r5⟩
  · rw [if_pos r1] at ek ec
    rw [zq_numBad (ek0.trans ek), ec0, ec]
    exact Or.inl r2
  · have nr1 : ¬ zk_dec3 X2 = 0 := by rw [r1]; decide
    rw [if_neg nr1] at ek ec
    have hll' := zq_nl_len T n a (c' - a)
    have hcl' : c' ≤ n := r3.2.2.2.2.2.2.2.2
    have el3 : (zc_dec3 X2).1 1 - N0.1 1 = nI (zq_nl T n a (c' - a)).length := by rw [r3.2.2.2.2.2.1, h1, pk_sub (by omega), Nat.add_sub_cancel_left]
    rw [el1, el3] at ek ec
    refine zq_res_back (c' := c') ?_ r2 r4
    rcases r5 with ⟨p1, p2, p3, p4⟩ | ⟨⟨p1, p2, p3⟩, p4, p5, p6⟩
    · rw [p1, p2]
      rw [p1] at ek ec el3
      rw [p3] at ek ec
      have he : ¬ (¬ zr_e (zq_x T n c) = 0 ∧ ¬ s = 10) := fun z => z.1 (zr_e_x p4)
      rcases hc with ⟨c1, c2, c3, c4, c5, c6⟩ | ⟨c1, c2⟩
      · -- no point, no exponent
        obtain ⟨q1, q2, q3, q4, q5, q6⟩ := zq_is_s c2
        have hl : l1 = (zq_nl T n a (c - a)).length := by
          have : X2.1 1 = nI (u + (zq_nl T n a (c - a)).length) := hX.2.2.2.2.2.1
          rw [c1, hl1] at this
          have := z_injC (by omega) (by omega) this
          omega
        have nlt : ¬ nI l1 < nI (zq_nl T n a (c - a)).length := by rw [hl]; exact zq_nlt (by omega) (by omega) (Nat.le_refl _)
        rw [if_neg nlt, h1] at ek ec
        obtain ⟨F1, F2⟩ := zn_fin (x := zq_x T n c) hm.2.2.2 hs.2.1 h26 hm.1.2.2.1 hdx (fun z => absurd z c5) (fun z => c6 z.1) he (fun z y w => c4 z w (zr_e_x p4))
        have pool : ∀ i : Nat, i < (zq_nl T n a (c - a)).length → ∃ v : Nat, v < 128 ∧ (zq_nl T n a (c - a)).getD i 0 = nI v ∧ ¬ zr_digit (nI v) = 0 ∧ zk_byteAt X2 (nI u + nI i) = nI v := by
          intro i hi
          obtain ⟨v, v1, v2, v3⟩ := zq_is_v c2 hi
          exact ⟨v, v1, v2, v3, zq_pool hT hX (by omega) hi (by omega) v2⟩
        have b0 : ∃ v : Nat, v < 128 ∧ (zq_nl T n a (c - a)).getD 0 0 = nI v ∧ zk_byteAt X2 (nI u) = nI v := by
          obtain ⟨v, v1, v2, v3, v4⟩ := pool 0 c2.1
          refine ⟨v, v1, v2, ?_⟩
          have e : nI u + nI 0 = nI u := by rw [nI_add, Nat.add_zero]
          rw [e] at v4
          exact v4
        have good : ∀ b : Nat, b = 8 ∨ b = 10 → nI b = zr_st4 s → ¬ s = 4 → zr_st5 s = 1 → zk_octal X2 (nI u) (nI l1) = nI b → zc_octal X2 (nI u) (nI l1) = X2 → zq_res T n (zc_putNumber (zc_readNumber N0) (zk_readNumber N0)) Y c := by
          intro b hb hb2 h4 h5 ho1 ho2
          refine zq_numFin hT hm hs.1 hX hac hta hua (show b < 100 by omega) (ek0.trans (ek.trans ho1)) (ec0.trans (ec.trans ho2)) (fun hp => F1 (Or.inl ((zr_part_0 hdx).2 hp))) (fun hp => ?_)
          have hm2 := zq_mid_s hm 22 (zr_st4 s) (by decide)
          rw [if_neg (by decide)] at hm2
          refine ⟨zr_st5 s, zm_s Y 22 (zr_st4 s), F2 (fun z => by rcases z with z | z; exact z ((zr_part_0 hdx).1 hp); exact h4 z), hm2, Or.inr ⟨by rw [h5]; decide, by omega, hb2.symm, 0, zq_int_dec c2 h4 hb2 hb⟩⟩
        rcases c2.2.2 with ⟨z1, z2⟩ | ⟨z1, z2, z3⟩ | ⟨z1, z2, z3⟩ | ⟨z1, z2, i, i1, i2, i3⟩
        · obtain ⟨v, v1, v2, v3⟩ := b0
          have hne : nI l1 = 1 ∨ ¬ zk_byteAt X2 (nI u) = 48 := Or.inr (by rw [v3, ← v2]; exact z2)
          exact good 10 (Or.inr rfl) (by rw [z1]; decide) (by rw [z1]; decide) (by rw [z1]; decide) (by unfold zk_octal; rw [if_pos hne]; rfl) (by unfold zc_octal; rw [if_pos hne])
        · have hne : nI l1 = 1 ∨ ¬ zk_byteAt X2 (nI u) = 48 := Or.inl (by rw [hl, z3]; rfl)
          exact good 10 (Or.inr rfl) (by rw [z1]; decide) (by rw [z1]; decide) (by rw [z1]; decide) (by unfold zk_octal; rw [if_pos hne]; rfl) (by unfold zc_octal; rw [if_pos hne])
        · have hlen := c3 z1
          obtain ⟨v, v1, v2, v3⟩ := b0
          have hne : ¬ (nI l1 = 1 ∨ ¬ zk_byteAt X2 (nI u) = 48) := by
            rintro (y | y)
            · exact absurd (z_injC (b := 1) (by omega) (by omega) y) (by omega)
            · exact y (by rw [v3, ← v2]; exact z2)
          have h9 : zk_nine X2 (nI u) ((nI l1).toNatClampNeg - 1) 1 = 0 := by
            rw [nI_clamp (by omega)]
            refine zk_nine_0 _ _ (fun j x y => ?_)
            obtain ⟨w, w1, w2, w3, w4⟩ := pool j (by omega)
            rw [w4, ← w2]
            exact z3 j x (by omega)
          exact good 8 (Or.inl rfl) (by rw [z1]; decide) (by rw [z1]; decide) (by rw [z1]; decide) (by unfold zk_octal; rw [if_neg hne, if_pos h9]; rfl) (by unfold zc_octal; rw [if_neg hne, if_pos h9])
        · obtain ⟨v, v1, v2, v3⟩ := b0
          have hne : ¬ (nI l1 = 1 ∨ ¬ zk_byteAt X2 (nI u) = 48) := by
            rintro (y | y)
            · exact absurd (z_injC (b := 1) (by omega) (by omega) y) (by omega)
            · exact y (by rw [v3, ← v2]; exact z2)
          have h9 : zk_nine X2 (nI u) ((nI l1).toNatClampNeg - 1) 1 = 1 := by
            rw [nI_clamp (by omega)]
            obtain ⟨w, w1, w2, w3, w4⟩ := pool i i2
            refine zk_nine_1 _ _ i i1 (by omega) ?_
            rw [w4, ← w2]
            exact i3
          have o1 : zk_octal X2 (nI u) (nI l1) = -1 := by unfold zk_octal; rw [if_neg hne, h9, if_neg (by decide)]
          have o2 : zc_octal X2 (nI u) (nI l1) = zc_refuse X2 := by unfold zc_octal; rw [if_neg hne, h9, if_neg (by decide)]
          rw [zq_numBad (ek0.trans (ek.trans o1)), ec0, ec, o2]
          exact Or.inl (zq_er_mk hX.1 hX.2.2.1 hcl (zq_nerr hT hm hs.1 hcl hac hua (F1 (Or.inr z1))))
      · -- a point
        rw [if_pos (nI_lt c1 (by omega))] at ek ec
        have s2 : ¬ s = 2 ∧ ¬ s = 4 ∧ ¬ (s = 2 ∨ s = 3 ∨ s = 4 ∨ s = 5) ∧ zr_st5 s = 0 := by
          rcases c2 with z | z
          · rw [z]; decide
          · rw [z.1]; decide
        obtain ⟨F1, F2⟩ := zn_fin (x := zq_x T n c) hm.2.2.2 hs.2.1 h26 hm.1.2.2.1 hdx (fun z => by rcases c2 with y | y; exact y; exact absurd z y.2) (fun z => s2.2.2.1 z.2) he (fun z => absurd z s2.1)
        refine zq_numFin hT hm hs.1 hX hac hta hua (b := 0) (by omega) (ek0.trans ek) (ec0.trans ec) (fun hp => F1 (Or.inl ((zr_part_0 hdx).2 hp))) (fun hp => ?_)
        have hm2 := zq_mid_s hm 22 (zr_st4 s) (by decide)
        rw [if_neg (by decide)] at hm2
        exact ⟨zr_st5 s, zm_s Y 22 (zr_st4 s), F2 (fun z => by rcases z with z | z; exact z ((zr_part_0 hdx).1 hp); exact s2.2.1 z), hm2, Or.inl ⟨s2.2.2.2, rfl⟩⟩
    · -- an exponent
      have hlt : l1 < (zq_nl T n a (c' - a)).length := by
        rcases hc with ⟨c1, -⟩ | ⟨c1, -⟩
        · have : X2.1 1 = nI (u + (zq_nl T n a (c - a)).length) := hX.2.2.2.2.2.1
          rw [c1, hl1] at this
          have := z_injC (by omega) (by omega) this
          omega
        · omega
      rw [if_pos (nI_lt hlt (by omega))] at ek ec
      obtain ⟨F1, F2⟩ := zn_fin (x := zq_x T n c') p1.2.2.2 (by decide) p3 p1.1.2.2.1 p4 (fun z => absurd z p5) (fun z => absurd z.2 (by decide)) (fun z => z.2 rfl) (fun z => absurd z (by decide))
      refine zq_numFin hT p1 (by decide) r3 p2 hta hua (b := 0) (by omega) (ek0.trans ek) (ec0.trans ec) (fun hp => F1 (Or.inl ((zr_part_0 p4).2 hp))) (fun hp => ?_)
      have hm2 := zq_mid_s p1 22 (zr_st4 10) (by decide)
      rw [if_neg (by decide)] at hm2
      exact ⟨zr_st5 10, zm_s Y' 22 (zr_st4 10), F2 (fun z => by rcases z with z | z; exact z ((zr_part_0 p4).1 hp); exact absurd z (by decide)), hm2, Or.inl ⟨by decide, rfl⟩⟩
end
