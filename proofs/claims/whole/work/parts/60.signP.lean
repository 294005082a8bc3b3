/-! The piece: a sign. -/
theorem zm_ok_14 {M : zm_M} {t a c : Nat} (h : M.1 21 = 14 ∨ M.1 21 = 17) (hT : zm_T M) (h27 : M.1 27 = nI c) (h23 : M.1 23 = nI a) (hac : a ≤ c) (hc : c ≤ 60000) : zm_ok M := by
  refine ⟨c - a, 0, hT, ?_, ?_, fun _ => ⟨by rw [h27, h23, pk_sub hac], by omega, fun j hj => ?_⟩, ?_⟩
  · rcases h with h | h <;> rw [h] <;> exact fun z => absurd z (by decide)
  · rcases h with h | h <;> rw [h] <;> exact fun _ z => absurd (by decide) z
  · rw [h23, nI_add]
    exact vp_in_nI (by omega) (by omega)
  · rcases h with h | h <;> rw [h] <;> exact fun z => absurd z (by decide)
theorem zm_step_14 {M : zm_M} (h : M.1 21 = 14) (x : Int32) : zm_step M x = zm_sign M x := by
  unfold zm_step
  rw [h, if_neg (by decide), if_neg (fun z => absurd z.1 (by decide)), if_neg (by decide), if_neg (by decide), if_neg (by decide), if_pos rfl]
theorem zm_step_17 {M : zm_M} (h : M.1 21 = 17) (x : Int32) : zm_step M x = zm_slash M x := by
  unfold zm_step
  rw [h, if_neg (by decide), if_neg (fun z => absurd z.1 (by decide)), if_neg (by decide), if_neg (by decide), if_neg (by decide), if_neg (by decide), if_neg (by decide), if_pos rfl]
section
variable {T : Nat → Int32} {n : Nat} {N W : zc_N} {Y : zm_M} {a c t k u : Nat} {s : Int32}
theorem zr_sg (hT : zq_T T n) (hm : zq_mt T n Y c) {m : Nat} (hm9 : m ≤ 3) (ham : a + m ≤ n) (f : Nat → Int32) (x : Int32) (hx : ¬ x = -1) (hf : ∀ j : Nat, j < m → f j = zq_x T n (a + j)) (hfm : f m = x) : zr_signOf Y (nI a) (nI m) x = zw_find zw_signs f (nI (m + 1)) 0 := by
  have hn := hT.1
  unfold zr_signOf
  rw [if_neg hx, nI_1]
  refine zw_find_congr (by omega) (fun j hj => ?_) zw_signs 0 (by decide)
  by_cases q : j < m
  · rw [if_pos (nI_lt q (by omega)), nI_add, zr_byteAt_at hT hm (by omega), hf j q]
  · have : j = m := by omega
    rw [this, if_neg (fun z => absurd (z_lit (by omega) (by omega) z) (by omega)), hfm]
theorem zr_sgE (hT : zq_T T n) (hm : zq_mt T n Y c) {m : Nat} (hm9 : m ≤ 3) (ham : a + m ≤ n) (f : Nat → Int32) (hf : ∀ j : Nat, j < m → f j = zq_x T n (a + j)) : zr_signOf Y (nI a) (nI m) (-1) = zw_find zw_signs f (nI m) 0 := by
  have hn := hT.1
  unfold zr_signOf
  rw [if_pos rfl]
  refine zw_find_congr (by omega) (fun j hj => ?_) zw_signs 0 (by decide)
  rw [if_pos (nI_lt hj (by omega)), nI_add, zr_byteAt_at hT hm (by omega), hf j hj]
/-- a token of no bytes put at c by both -/
theorem zq_tokS (hT : zq_T T n) (hD : zq_D T n W Y t k u) (hs : zq_st T n W Y a u) (hc : zq_ct T n W c) (hm : zq_mt T n Y c) (hac : a < c) (hcn : c ≤ n) (hta : t ≤ a) (hua : u ≤ a) (kd : Int32) (h2 : ¬ kd = 2) (h4 : ¬ kd = 4) : zq_S T n (zc_putT W kd) (zm_s (zm_token Y kd (Y.1 27 - Y.1 23) 0) 21 0) c (t + 1) k u ∧ ∀ F : zm_M, zg (zm_s (zm_token Y kd (Y.1 27 - Y.1 23) 0) 21 0) F → zt (zm_fin (zm_gap (zm_s (zm_token Y kd (Y.1 27 - Y.1 23) 0) 21 0) (zq_x T n c)) (zq_x T n c)) F := by
  have hn := hT.1
  have e1 : W.1 62 - W.1 54 = Y.1 27 - Y.1 23 := by rw [hc.2.2.1, hs.1.1, hm.2.2.1, hs.2.1]
  have ep : zc_putT W kd = zc_from W kd (Y.1 27 - Y.1 23) := by unfold zc_putT; rw [e1]
  rw [ep]
  have hK := hD.2.2.2.1.1
  have D2 := zq_D_put hD hs (show t < 16384 by omega) kd (Y.1 27 - Y.1 23) h2 h4
  obtain ⟨-, r2, r3, r4, r5, -, -⟩ := zc_from_at hD.1 hK.1 (show t < 16384 by omega) kd (Y.1 27 - Y.1 23)
  obtain ⟨t1, -, t2, -⟩ := zm_token_at hK.2.1 (show t < 16384 by omega) kd (Y.1 27 - Y.1 23) 0
  exact zq_leave hT D2 (zq_ct_eq hc (fun j hj => r4 j (by omega) (by omega)) (r5 60 (by decide))) (zq_mt_eq hm (fun j hj => by rw [t1, zq_upd, if_neg (by omega)]) (t2 1 (by decide))) hcn (by omega) (by omega)
/-- the class a byte further, the reference not -/
theorem zq_st_step (h : zq_st T n W Y a u) : zq_st T n (zc_step W) Y a u := by
  obtain ⟨⟨h1, h2, h3, h4⟩, h5⟩ := h
  refine ⟨⟨?_, ?_, ?_, ?_⟩, h5⟩
  · rw [zc_step_1 (by decide) (by decide) (by decide)]; exact h1
  · rw [zc_step_1 (by decide) (by decide) (by decide)]; exact h2
  · rw [zc_step_1 (by decide) (by decide) (by decide)]; exact h3
  · rw [zc_step_1 (by decide) (by decide) (by decide)]; exact h4
/-- the sign ends at c: the reference puts it -/
theorem zm_sign_put (hT : zq_T T n) (hm : zq_mt T n Y c) (h23 : Y.1 23 = nI a) (hac : a < c) (hcn : c ≤ n) (hc3 : c - a ≤ 3) (f g : Nat → Int32) (hf : ∀ j : Nat, j < c - a → f j = zq_x T n (a + j)) (hg : ∀ j : Nat, j < c - a → g j = zq_x T n (a + j)) (hgl : g (c - a) = zq_x T n c) (hno : ¬ zq_x T n c = -1 → zw_find zw_signs g (nI (c - a + 1)) 0 = -1) {kd : Int32} (hkd : kd = 40 + zw_find zw_signs f (nI (c - a)) 0) : zm_sign Y (zq_x T n c) = zm_gap (zm_s (zm_token Y kd (Y.1 27 - Y.1 23) 0) 21 0) (zq_x T n c) := by
  have hn := hT.1
  have e : Y.1 27 - Y.1 23 = nI (c - a) := by rw [hm.2.2.1, h23, pk_sub (by omega)]
  unfold zm_sign
  dsimp only
  rw [e, h23, if_neg, zr_sgE hT hm hc3 (by omega) f hf, ← hkd]
  rintro ⟨z1, z2⟩
  apply z2
  rw [zr_sg hT hm hc3 (by omega) g (zq_x T n c) z1 hg hgl, hno z1]
  exact zq_m1
theorem zm_sign_on (hT : zq_T T n) (hm : zq_mt T n Y c) (h23 : Y.1 23 = nI a) (hac : a < c) (hcn : c < n) (hc3 : c - a ≤ 3) (g : Nat → Int32) (hg : ∀ j : Nat, j < c - a → g j = zq_x T n (a + j)) (hgl : g (c - a) = zq_x T n c) (hx : ¬ zq_x T n c = -1) (hyes : ¬ zw_find zw_signs g (nI (c - a + 1)) 0 < 0) : zm_sign Y (zq_x T n c) = Y := by
  have hn := hT.1
  have e : Y.1 27 - Y.1 23 = nI (c - a) := by rw [hm.2.2.1, h23, pk_sub (by omega)]
  unfold zm_sign
  rw [e, h23, if_pos]
  refine ⟨hx, ?_⟩
  rw [zr_sg hT hm hc3 (by omega) g (zq_x T n c) hx hg hgl]
  exact hyes
theorem zq_signrun (hT : zq_T T n) (h : zq_mid T n W Y (a + 1) a t k u 14) (hc : zq_ct T n W (a + 1)) (han : a < n) (hta : t ≤ a) (hua : u ≤ a) {v : Nat} (hv : v < 256) (hx : zq_x T n a = nI v) (h1 : ¬ zk_one (nI v) = -1) (h46 : ¬ v = 46) : ∃ (V : zm_M) (b : Nat), a < b ∧ zq_S T n (zc_sign2 W (nI v)) V b (t + 1) k u ∧ ∀ F : zm_M, zg V F → zt (zm_fin (zm_sign Y (zq_x T n (a + 1))) (zq_x T n (a + 1))) F := by
  have hn := hT.1
  have h9 := h
  obtain ⟨hD, hs, hm, h21⟩ := h9
  have hI := hD.1
  obtain ⟨o1, o2, o3, o4, o5, o6, o7⟩ : ¬ zk_one (nI v) = -1 ∧ v < 128 ∧ 0 < v ∧ ¬ zw_s1 (nI v) < 0 ∧ zk_one (nI v) = 40 + zw_s1 (nI v) ∧ ¬ zk_one (nI v) = 2 ∧ ¬ zk_one (nI v) = 4 := by
    rcases zw_one v hv with z | z
    · exact absurd z.1 h1
    · exact z
  have hmP2 : ∀ p ∈ zw_P2, ¬ p.2 = -1 := by decide +kernel
  have hmP3 : ∀ p ∈ zw_P3, ¬ p.2.2 = -1 := by decide +kernel
  have hh : zk_here W = zq_x T n (a + 1) := zk_here_at hT hc (by omega)
  obtain ⟨wy, wy1, wy2, wy3⟩ := zq_x255 (T := T) (n := n) (i := a + 1) hT
  obtain ⟨wz, wz1, wz2, wz3⟩ := zq_x255 (T := T) (n := n) (i := a + 1 + 1) hT
  have e2 : zk_2 W (nI v) = (nI v <<< ((8 : Int32) &&& 31)) ||| (zq_x T n (a + 1) &&& 255) := by unfold zk_2; rw [hh]
  have hnx : zk_next W = zq_x T n (a + 1 + 1) := by
    rcases Nat.lt_or_ge (a + 1) n with q | q
    · exact zk_next_at hT hc q
    · have : n = a + 1 := by omega
      exact zk_next_le hT hc (by omega)
  have e3 : zk_3 W (nI v) = (((nI v <<< ((8 : Int32) &&& 31)) ||| (zq_x T n (a + 1) &&& 255)) <<< ((8 : Int32) &&& 31)) ||| (zq_x T n (a + 1 + 1) &&& 255) := by unfold zk_3; rw [e2, hnx]
  have h23 : Y.1 23 = nI a := hs.2.1
  by_cases c2 : (nI v, zq_x T n (a + 1)) ∈ zw_P2
  · have hy := hmP2 _ c2
    have hlt : a + 1 < n := zq_lt hy
    obtain ⟨q1, q2, q3, q4, q5⟩ := zw_two _ c2
    dsimp only at q1 q2 q3 q4 q5 hy
    have on1 : zm_sign Y (zq_x T n (a + 1)) = Y := zm_sign_on hT hm h23 (by omega) hlt (by omega) (zw_f2 (nI v) (zq_x T n (a + 1))) (fun j hj => by
      have : j = 0 := by omega
      subst this
      exact hx.symm) (by rw [show a + 1 - a = 1 from by omega]; rfl) hy (by rw [show a + 1 - a + 1 = 2 from by omega]; exact q1)
    rw [on1]
    have m2 := zq_mid_fin h
    have hK2 := m2.1.2.2.2.1
    have hcs := zc_step_at hT hc hlt
    have step2 : ∀ F : zm_M, zt (zm_fin (zm_sign (zm_fin Y (zq_x T n (a + 1))) (zq_x T n (a + 1 + 1))) (zq_x T n (a + 1 + 1))) F → zt (zm_fin Y (zq_x T n (a + 1))) F := by
      intro F hF
      refine zt_step hT m2.2.2.1 (by omega) (by rw [m2.1.2.2.1]; exact zq_m1) (zm_ok_14 (t := t) (Or.inl m2.2.2.2) (zm_T_at hK2.1.2.1 hK2.2.1) m2.2.2.1.2.2.1 m2.2.1.2.1 (by omega) (by omega)) ?_
      rw [zm_step_14 m2.2.2.2]
      exact hF
    by_cases c3 : (nI v, zq_x T n (a + 1), zq_x T n (a + 1 + 1)) ∈ zw_P3
    · have hz := hmP3 _ c3
      have hlt3 : a + 1 + 1 < n := zq_lt hz
      obtain ⟨p1, p2, p3, p4, p5, -⟩ := zw_three _ c3
      dsimp only at p1 p2 p3 p4 p5 hz
      have on2 : zm_sign (zm_fin Y (zq_x T n (a + 1))) (zq_x T n (a + 1 + 1)) = zm_fin Y (zq_x T n (a + 1)) := zm_sign_on hT m2.2.2.1 m2.2.1.2.1 (by omega) hlt3 (by omega) (zw_f3 (nI v) (zq_x T n (a + 1)) (zq_x T n (a + 1 + 1))) (fun j hj => by
        have : j = 0 ∨ j = 1 := by omega
        rcases this with rfl | rfl
        · exact hx.symm
        · rfl) (by rw [show a + 1 + 1 - a = 2 from by omega]; rfl) hz (by rw [show a + 1 + 1 - a + 1 = 3 from by omega]; exact p1)
      have m3 := zq_mid_fin m2
      have hK3 := m3.1.2.2.2.1
      have hcs3 := zc_step_at hT hcs hlt3
      have esg : zc_sign2 W (nI v) = zc_putT (zc_step (zc_step W)) (40 + zw_s3 (nI v) (zq_x T n (a + 1)) (zq_x T n (a + 1 + 1))) := by
        unfold zc_sign2
        rw [e3, p2, if_neg p3]
      rw [esg]
      obtain ⟨S1, S2⟩ := zq_tokS hT (zq_D_step (zq_D_step m3.1)) (zq_st_step (zq_st_step m3.2.1)) hcs3 m3.2.2.1 (by omega) hlt3 hta hua (40 + zw_s3 (nI v) (zq_x T n (a + 1)) (zq_x T n (a + 1 + 1))) p4 p5
      refine ⟨_, _, by omega, S1, fun F hF => step2 F ?_⟩
      rw [on2]
      refine zt_step hT m3.2.2.1 hlt3 (by rw [m3.1.2.2.1]; exact zq_m1) (zm_ok_14 (t := t) (Or.inl m3.2.2.2) (zm_T_at hK3.1.2.1 hK3.2.1) m3.2.2.1.2.2.1 m3.2.1.2.1 (by omega) (by omega)) ?_
      rw [zm_step_14 m3.2.2.2, zm_sign_put hT m3.2.2.1 m3.2.1.2.1 (by omega) hlt3 (by omega) (zw_f3 (nI v) (zq_x T n (a + 1)) (zq_x T n (a + 1 + 1))) (fun j => zq_x T n (a + j)) (fun j hj => by
        have : j = 0 ∨ j = 1 ∨ j = 2 := by omega
        rcases this with rfl | rfl | rfl
        · exact hx.symm
        · rfl
        · rfl) (fun j _ => rfl) (by show zq_x T n (a + (a + 1 + 1 + 1 - a)) = _; rw [show a + (a + 1 + 1 + 1 - a) = a + 1 + 1 + 1 from by omega]) (fun _ => by rw [show a + 1 + 1 + 1 - a + 1 = 4 from by omega]; exact zw_s4_no) (kd := 40 + zw_s3 (nI v) (zq_x T n (a + 1)) (zq_x T n (a + 1 + 1))) (by rw [show a + 1 + 1 + 1 - a = 3 from by omega]; rfl)]
      exact S2 F hF
    · have esg : zc_sign2 W (nI v) = zc_putT (zc_step W) (40 + zw_s2 (nI v) (zq_x T n (a + 1))) := by
        unfold zc_sign2
        rw [e3, zk_three_at hv wy1 wz1 _ _ wy2 wz2 wy3 wz3 c3, if_pos rfl, e2, q2, if_neg q3]
      rw [esg]
      obtain ⟨S1, S2⟩ := zq_tokS hT (zq_D_step m2.1) (zq_st_step m2.2.1) hcs m2.2.2.1 (by omega) hlt hta hua (40 + zw_s2 (nI v) (zq_x T n (a + 1))) q4 q5
      refine ⟨_, _, by omega, S1, fun F hF => step2 F ?_⟩
      rw [zm_sign_put hT m2.2.2.1 m2.2.1.2.1 (by omega) hlt (by omega) (zw_f2 (nI v) (zq_x T n (a + 1))) (zw_f3 (nI v) (zq_x T n (a + 1)) (zq_x T n (a + 1 + 1))) (fun j hj => by
        have : j = 0 ∨ j = 1 := by omega
        rcases this with rfl | rfl
        · exact hx.symm
        · rfl) (fun j hj => by
        have : j = 0 ∨ j = 1 := by omega
        rcases this with rfl | rfl
        · exact hx.symm
        · rfl) (by rw [show a + 1 + 1 - a = 2 from by omega]; rfl) (fun _ => by rw [show a + 1 + 1 - a + 1 = 3 from by omega]; exact zw_s3_no c3) (kd := 40 + zw_s2 (nI v) (zq_x T n (a + 1))) (by rw [show a + 1 + 1 - a = 2 from by omega]; rfl)]
      exact S2 F hF
  · have c3 : (nI v, zq_x T n (a + 1), zq_x T n (a + 1 + 1)) ∉ zw_P3 := by
      intro z
      rcases (zw_three _ z).2.2.2.2.2 with q | q
      · exact h46 (z_injC (b := 46) (by omega) (by omega) q)
      · exact c2 q
    have esg : zc_sign2 W (nI v) = zc_putT W (zk_one (nI v)) := by
      unfold zc_sign2
      rw [e3, zk_three_at hv wy1 wz1 _ _ wy2 wz2 wy3 wz3 c3, if_pos rfl, e2, zk_two_at hv wy1 _ wy2 wy3 c2, if_pos rfl]
    rw [esg]
    obtain ⟨S1, S2⟩ := zq_tokS hT hD hs hc hm (by omega) han hta hua (zk_one (nI v)) o6 o7
    refine ⟨_, _, by omega, S1, fun F hF => ?_⟩
    rw [zm_sign_put hT hm h23 (by omega) han (by omega) (zw_f1 (nI v)) (zw_f2 (nI v) (zq_x T n (a + 1))) (fun j hj => by
      have : j = 0 := by omega
      subst this
      exact hx.symm) (fun j hj => by
      have : j = 0 := by omega
      subst this
      exact hx.symm) (by rw [show a + 1 - a = 1 from by omega]; rfl) (fun _ => by rw [show a + 1 - a + 1 = 2 from by omega]; exact zw_s2_no c2) (kd := zk_one (nI v)) (by rw [show a + 1 - a = 1 from by omega]; exact o5)]
    exact S2 F hF
end
