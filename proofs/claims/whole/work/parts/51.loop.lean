/-! The loop: blanks, line's ends, the end; what is still to be told of comments and tokens is a premise. -/
theorem zm_ok_0 {M : zm_M} (h : M.1 21 = 0) (hT : zm_T M) : zm_ok M := by
  refine ⟨0, 0, hT, ?_, ?_, ?_, ?_⟩
  · rw [h]; exact fun z => absurd z (by decide)
  · rw [h]; exact fun z => absurd (by decide) z
  · rw [h]; exact fun z => absurd z (by decide)
  · rw [h]; exact fun z => absurd z (by decide)
theorem zm_T_at {M : zm_M} {t : Nat} (h : M.1 3 = nI t) (ht : t ≤ 16384) : zm_T M := by
  unfold zm_T
  rw [h]
  exact ⟨nI_pos (by omega), fun z => absurd (z_lit (a := 16384) (by omega) (by omega) z) (by omega)⟩
theorem zq_m1 : (-1 : Int32) < 0 := by decide
theorem zq_D_fin {T : Nat → Int32} {n : Nat} {N : zc_N} {M : zm_M} {t k u : Nat} (h : zq_D T n N M t k u) (x : Int32) : zq_D T n N (zm_fin M x) t k u := zq_D_frame h h.1 (fun _ => rfl) (fun _ _ => rfl) zm_fin_2 (fun j hj => zm_fin_1 (by omega) (by omega) (by omega))
/-- in state 0 behind a byte -/
theorem zq_arrive {T : Nat → Int32} {n : Nat} (hT : zq_T T n) {X : zc_N} {Y : zm_M} {a t k u : Nat} (hD : zq_D T n X Y t k u) (hc : zq_ct T n X (a + 1)) (hm : zq_mt T n Y a) (ha : a < n) (h21 : Y.1 21 = 0) (ht : t ≤ a + 1) (hu : u ≤ a + 1) : zq_S T n X (zm_fin Y (zq_x T n a)) (a + 1) t k u ∧ ∀ F : zm_M, zg (zm_fin Y (zq_x T n a)) F → zt (zm_fin Y (zq_x T n a)) F := by
  have hD2 := zq_D_fin hD (zq_x T n a)
  have hm2 := zm_fin_at hm
  have e21 : (zm_fin Y (zq_x T n a)).1 21 = 0 := (zm_fin_1 (by decide) (by decide) (by decide)).trans h21
  refine ⟨⟨hD2, hc, hm2, ha, e21, ht, hu⟩, fun F hF => ?_⟩
  exact zt_0 hT hm2 ha (by rw [hD2.2.2.1]; exact zq_m1) e21 (zm_ok_0 e21 (zm_T_at hD2.2.2.2.1.1.2.1 hD2.2.2.2.1.2.1)) hF
theorem zq_mark {T : Nat → Int32} {n : Nat} {N : zc_N} {M : zm_M} {a t k u : Nat} (h : zq_S T n N M a t k u) (w : Int32) : zq_D T n (zc_mark N) (zm_begin M w) t k u ∧ zq_st T n (zc_mark N) (zm_begin M w) a u ∧ zq_ct T n (zc_mark N) a ∧ zq_mt T n (zm_begin M w) a := by
  obtain ⟨hD, ⟨c1, c2, c3, c4, c5⟩, ⟨m1, m2, m3, m4, m5⟩, -⟩ := h
  have e1 : ∀ j : Nat, j ≠ 54 → j ≠ 55 → j ≠ 56 → j ≠ 57 → (zc_mark N).1 j = N.1 j := by
    intro j a b c d
    unfold zc_mark
    show upd (upd (upd (upd N.1 54 _) 55 _) 56 _) 57 _ j = _
    rw [zq_upd, if_neg d, zq_upd, if_neg c, zq_upd, if_neg b, zq_upd, if_neg a]
  have e2 : ∀ j : Nat, j ≠ 21 → j ≠ 23 → j ≠ 24 → j ≠ 25 → (zm_begin M w).1 j = M.1 j := by
    intro j a b c d
    unfold zm_begin
    show upd (upd (upd (upd M.1 21 _) 23 _) 24 _) 25 _ j = _
    rw [zq_upd, if_neg d, zq_upd, if_neg c, zq_upd, if_neg b, zq_upd, if_neg a]
  refine ⟨zq_D_frame hD (zi_mark hD.1) (fun _ => rfl) (fun j hj => e1 j (by omega) (by omega) (by omega) (by omega)) rfl (fun j hj => e2 j (by omega) (by omega) (by omega) (by omega)), ⟨⟨c3, c4, ?_, hD.2.2.2.1.1.2.2.2.1⟩, m3, m4, ?_⟩, ⟨c1, c2, c3, c4, c5⟩, ⟨m1, m2, m3, m4, m5⟩⟩
  · show N.1 62 - N.1 64 + 1 = _
    rw [c3, c5]
  · show M.1 27 - M.1 29 + 1 = _
    rw [m3, m5]
theorem zq_blank {T : Nat → Int32} {n : Nat} (hT : zq_T T n) {N : zc_N} {M : zm_M} {a t k u : Nat} (h : zq_S T n N M a t k u) (hb : ¬ zr_blank (zq_x T n a) = 0) (ha : a < n) : zq_out T n (zc_step (zc_mark N)) M a := by
  have hn := hT.1
  have h9 := h
  obtain ⟨hD, hc, hm, -, h21, ht, hu⟩ := h9
  obtain ⟨g1, -, g3, -⟩ := zq_mark h 0
  have h30 : M.1 30 < 0 := by rw [hD.2.2.1]; exact zq_m1
  have eg : zm_gap M (zq_x T n a) = M := by
    unfold zm_gap
    rw [if_neg (fun z => z h30), if_pos hb]
  have hD2 : zq_D T n (zc_step (zc_mark N)) M t k u := by
    refine zq_D_frame hD (zi_step (zi_mark hD.1)) (fun b => ?_) (fun j hj => ?_) rfl (fun _ _ => rfl)
    · unfold zc_step
      split <;> rfl
    · have e1 : (zc_step (zc_mark N)).1 j = (zc_mark N).1 j := by
        unfold zc_step
        split
        · show upd (upd (upd (zc_mark N).1 63 _) 64 _) 62 _ j = _
          rw [zq_upd, if_neg (by omega), zq_upd, if_neg (by omega), zq_upd, if_neg (by omega)]
        · show upd (zc_mark N).1 62 _ j = _
          rw [zq_upd, if_neg (by omega)]
      rw [e1]
      unfold zc_mark
      show upd (upd (upd (upd N.1 54 _) 55 _) 56 _) 57 _ j = _
      rw [zq_upd, if_neg (by omega), zq_upd, if_neg (by omega), zq_upd, if_neg (by omega), zq_upd, if_neg (by omega)]
  obtain ⟨s1, s2⟩ := zq_arrive hT hD2 (zc_step_at hT g3 ha) hm ha h21 (by omega) (by omega)
  refine Or.inl ⟨_, a + 1, t, k, u, by omega, s1, fun F hF => ?_⟩
  unfold zg
  rw [zr_here_at hT hm (by omega), eg]
  exact s2 F hF
/-- what a step of the class leaves -/
theorem zc_step_1 {N : zc_N} {j : Nat} (h1 : j ≠ 62) (h2 : j ≠ 63) (h3 : j ≠ 64) : (zc_step N).1 j = N.1 j := by
  unfold zc_step
  split
  · show upd (upd (upd N.1 63 _) 64 _) 62 _ j = _
    rw [zq_upd, if_neg h1, zq_upd, if_neg h3, zq_upd, if_neg h2]
  · show upd N.1 62 _ j = _
    rw [zq_upd, if_neg h1]
theorem zc_step_2 {N : zc_N} : (zc_step N).2 = N.2 := by
  unfold zc_step
  split <;> rfl
theorem zq_D_step {T : Nat → Int32} {n : Nat} {N : zc_N} {M : zm_M} {t k u : Nat} (h : zq_D T n N M t k u) : zq_D T n (zc_step N) M t k u := zq_D_frame h (zi_step h.1) (fun _ => by rw [zc_step_2]) (fun j hj => zc_step_1 (by omega) (by omega) (by omega)) rfl (fun _ _ => rfl)
theorem zq_ct_eq {T : Nat → Int32} {n a : Nat} {N X : zc_N} (h : zq_ct T n N a) (h1 : ∀ j : Nat, j = 61 ∨ j = 62 ∨ j = 63 ∨ j = 64 → X.1 j = N.1 j) (h2 : X.2.1 60 = N.2.1 60) : zq_ct T n X a := by
  unfold zq_ct
  rw [h1 61 (by simp), h1 62 (by simp), h1 63 (by simp), h1 64 (by simp), h2]
  exact h
theorem zq_mt_eq {T : Nat → Int32} {n a : Nat} {M Y : zm_M} (h : zq_mt T n M a) (h1 : ∀ j : Nat, j = 2 ∨ j = 27 ∨ j = 28 ∨ j = 29 → Y.1 j = M.1 j) (h2 : Y.2.1 1 = M.2.1 1) : zq_mt T n Y a := by
  unfold zq_mt
  rw [h1 2 (by simp), h1 27 (by simp), h1 28 (by simp), h1 29 (by simp), h2]
  exact h
theorem zm_gap_nl {M : zm_M} {x : Int32} (h30 : M.1 30 < 0) (hx : x = 10 ∨ x = -1) : zm_gap M x = zm_semicolon (zm_begin M 0) := by
  unfold zm_gap
  rw [if_neg (fun z => z h30), if_neg (fun z => z (by rcases hx with rfl | rfl <;> decide)), if_pos hx]
theorem zq_newl {T : Nat → Int32} {n : Nat} (hT : zq_T T n) {N : zc_N} {M : zm_M} {a t k u : Nat} (h : zq_S T n N M a t k u) (hx : zq_x T n a = 10) (ha : a < n) : zq_out T n (zc_newl (zc_mark N)) M a := by
  have hn := hT.1
  have h9 := h
  obtain ⟨hD, hc, hm, -, h21, ht, hu⟩ := h9
  obtain ⟨g1, g2, g3, g4⟩ := zq_mark h 0
  have h30 : M.1 30 < 0 := by rw [hD.2.2.1]; exact zq_m1
  obtain ⟨e1, ⟨t', t1, t2, f1⟩, f2, f3, f4, f5, -⟩ := zq_D_semi g1 g2 (by omega)
  have en : zc_newl (zc_mark N) = zc_step (zc_endLine (zc_mark N)) := by
    unfold zc_newl
    rw [e1, if_neg (by decide)]
  rw [en]
  have hc2 : zq_ct T n (zc_endLine (zc_mark N)) a := zq_ct_eq g3 (fun j hj => f2 j (by omega) (by omega)) (f3 60 (by decide))
  have hm2 : zq_mt T n (zm_semicolon (zm_begin M 0)) a := zq_mt_eq g4 (fun j hj => f4 j (by omega)) (f5 1 (by decide))
  obtain ⟨s1, s2⟩ := zq_arrive hT (zq_D_step f1) (zc_step_at hT hc2 ha) hm2 ha (by rw [f4 21 (by decide)]; rfl) (by omega) (by omega)
  refine Or.inl ⟨_, a + 1, t', k, u, by omega, s1, fun F hF => ?_⟩
  unfold zg
  rw [zr_here_at hT hm (by omega), zm_gap_nl h30 (Or.inl hx)]
  exact s2 F hF
def zq_E (X : zc_N) (F : zm_M) : Prop := zk_finish X = zr_scan F ∧ ∃ t k : Nat, t ≤ 10241 ∧ zp_R (zc_cutTo (zc_finish X) 0) (zm_scanE F) 0 t k
theorem zq_end {T : Nat → Int32} {n : Nat} (hT : zq_T T n) {N : zc_N} {M : zm_M} {t k u : Nat} (h : zq_S T n N M n t k u) : ∃ F : zm_M, zg M F ∧ zq_E N F := by
  have hn := hT.1
  have h9 := h
  obtain ⟨hD, hc, hm, -, h21, ht, hu⟩ := h9
  obtain ⟨g1, g2, g3, g4⟩ := zq_mark h 0
  have h30 : M.1 30 < 0 := by rw [hD.2.2.1]; exact zq_m1
  obtain ⟨e1, ⟨t', t1, t2, f1⟩, f2, f3, f4, f5, -⟩ := zq_D_semi g1 g2 (by omega)
  have hm2 : zq_mt T n (zm_semicolon (zm_begin M 0)) n := zq_mt_eq g4 (fun j hj => f4 j (by omega)) (f5 1 (by decide))
  have hm3 := zm_fin_at hm2
  have hD3 := zq_D_fin f1 (zq_x T n n)
  have hc3 : zq_ct T n (zc_endLine (zc_mark N)) n := zq_ct_eq g3 (fun j hj => f2 j (by omega) (by omega)) (f3 60 (by decide))
  have eg : zm_fin (zm_gap M (zr_here M)) (zr_here M) = zm_fin (zm_semicolon (zm_begin M 0)) (zq_x T n n) := by
    rw [zr_here_at hT hm (by omega), zm_gap_nl h30 (Or.inr (zq_xe (Nat.le_refl _)))]
  have h65 := hD.2.1
  have ef : zc_fin1 N = zc_endLine (zc_mark N) := by unfold zc_fin1; rw [if_pos h65]
  refine ⟨zm_fin (zm_semicolon (zm_begin M 0)) (zq_x T n n), ?_, ?_⟩
  · unfold zg
    rw [eg]
    refine zt_end ?_
    rw [hm3.1, hm3.2.2.1]
    exact nI_lt (by omega) (by omega)
  · generalize zm_fin (zm_semicolon (zm_begin M 0)) (zq_x T n n) = F at hD3
    unfold zq_E zk_finish zc_finish
    rw [ef]
    generalize zc_endLine (zc_mark N) = X at hD3 hc3
    obtain ⟨d1, d2, d3, ⟨⟨d4, d5, d6, d7, d8, d9⟩, -, -⟩, ⟨n1, n2, n3, Q, W, n4, -⟩, -⟩ := hD3
    rw [if_pos d2, if_pos d2]
    have h30 : F.1 30 < 0 := by rw [d3]; exact zq_m1
    have ec : zc_cutTo X 0 = zc_s X 61 0 := by
      unfold zc_cutTo
      rw [if_neg]
      rw [hc3.1]
      rintro (z | z)
      · exact absurd z (by decide)
      · exact nI_pos (by omega) z
    have eS : zm_scanE F = zm_s F 2 0 := by unfold zm_scanE; rw [if_pos h30]
    refine ⟨by unfold zr_scan; rw [if_pos h30, d4, d5], t', k, by omega, ?_⟩
    have hI2 := zi_cutTo d1 0
    rw [ec] at hI2
    rw [ec, eS]
    refine ⟨hI2, ⟨rfl, rfl, fun i hi => absurd hi (by omega)⟩, ⟨d4, d5, by omega, fun j hj => ?_⟩, n1, n2, n3, fun j hj => ?_⟩
    · exact zp_tok_eq (d6 j hj) rfl rfl rfl rfl (fun _ _ _ => rfl) rfl
    · obtain ⟨f, p, -, x1, x2, -⟩ := n4 j hj
      exact x1.trans x2.symm
/-- refused at byte e -/
theorem zq_bad {X : zc_N} {F : zm_M} {e : Nat} (h65 : ¬ X.1 65 = 0) (hI : zc_I X) (he : e ≤ 10240) (h62 : X.1 62 = nI e) (hF : F.1 30 = nI e) : zq_E X F := by
  have h30 : ¬ F.1 30 < 0 := by rw [hF]; exact nI_pos (by omega)
  have ef : zc_fin1 X = X := by unfold zc_fin1; rw [if_neg h65]
  unfold zq_E zk_finish zc_finish
  rw [ef, if_neg h65, if_neg h65]
  have eS : zm_scanE F = zm_s (zm_s (zm_s F 2 0) 3 0) 17 0 := by unfold zm_scanE; rw [if_neg h30]
  refine ⟨by unfold zr_scan; rw [if_neg h30, h62, hF], 0, 0, by omega, ?_⟩
  have hI2 := zi_cutTo (zi_clear hI) 0
  have q61 : ∀ Z : zc_N, zc_I Z → (zc_cutTo Z 0).1 61 = 0 := by
    intro Z hZ
    obtain ⟨z, z1, z2⟩ := hZ.2.1
    have hl := zc_len hZ 60 (by decide)
    unfold zc_cutTo
    rw [if_neg]
    · rfl
    · rintro (q | q)
      · exact absurd q (by decide)
      · rw [z1] at q
        exact nI_pos (by omega) q
  have qo : ∀ (Z : zc_N) (j : Nat), j ≠ 61 → (zc_cutTo Z 0).1 j = Z.1 j := by
    intro Z j hj
    unfold zc_cutTo
    split
    · rfl
    · show upd Z.1 61 0 j = _
      rw [zq_upd, if_neg hj]
  have c71 : (zc_clear X).1 71 = 0 := by
    unfold zc_clear zc_clearN
    split <;> rfl
  have c24 : (zc_clear X).1 24 = 0 := by
    unfold zc_clear zc_clearN
    split <;> rfl
  rw [eS]
  refine ⟨hI2, ⟨q61 _ (zi_clear hI), rfl, fun i hi => absurd hi (by omega)⟩, ⟨(qo _ 71 (by decide)).trans c71, rfl, by omega, fun j hj => absurd hj (by omega)⟩, (qo _ 24 (by decide)).trans c24, rfl, Nat.le_refl _, fun j hj => absurd hj (by omega)⟩
theorem zq_scanL {T : Nat → Int32} {n : Nat} (hT : zq_T T n) (hp : ∀ (N : zc_N) (M : zm_M) (a t k u : Nat), zq_S T n N M a t k u → a < n → zq_out T n (if zk_pass N = 0 then zc_readToken (zc_pass N) else zc_pass N) M a) : ∀ (m : Nat) (N : zc_N) (M : zm_M) (a t k u : Nat), zq_S T n N M a t k u → n - a < m → ∃ F : zm_M, zg M F ∧ zq_E (zc_scanL m N) F := by
  intro m
  have hn := hT.1
  induction m with
  | zero => intro N M a t k u h hm; exact absurd hm (by omega)
  | succ m ih =>
    intro N M a t k u h hm
    rw [zc_scanL_s rfl]
    have h65 := h.1.2.1
    have hh := zk_here_at hT h.2.1 (by have := h.2.2.2.1; omega)
    by_cases c : a < n
    · have hg : ¬ zk_goes N = 0 := by
        obtain ⟨v, v1, -, v3⟩ := zq_xv hT c
        have h0 : ∀ v : Nat, v < 256 → ¬ nI v = -1 := by decide +kernel
        unfold zk_goes
        rw [hh, v3, if_pos ⟨h65, h0 v v1⟩]
        exact fun z => absurd z (by decide)
      rw [if_neg hg]
      have o := hp N M a t k u h c
      have e9 : (if zk_pass N = 0 then zc_scanL m (zc_readToken (zc_pass N)) else zc_scanL m (zc_pass N)) = zc_scanL m (if zk_pass N = 0 then zc_readToken (zc_pass N) else zc_pass N) := by
        split <;> rfl
      rw [e9]
      generalize (if zk_pass N = 0 then zc_readToken (zc_pass N) else zc_pass N) = X at o ⊢
      rcases o with ⟨Y, b, t', k', u', o1, o2, o3⟩ | ⟨o1, o2, e, F, o3, o4, o5, o6⟩
      · obtain ⟨F, F1, F2⟩ := ih X Y b t' k' u' o2 (by have := o2.2.2.2.1; omega)
        exact ⟨F, o3 F F1, F2⟩
      · refine ⟨F, o6, ?_⟩
        have e8 : zc_scanL m X = X := by
          cases m with
          | zero => rfl
          | succ m =>
            rw [zc_scanL_s rfl, if_pos]
            unfold zk_goes
            rw [if_neg (fun z => o1 z.1)]
        rw [e8]
        exact zq_bad o1 o2 o3 o4 o5
    · have ea : a = n := by have := h.2.2.2.1; omega
      subst ea
      have hg : zk_goes N = 0 := by
        unfold zk_goes
        rw [hh, zq_xe (Nat.le_refl _), if_neg (fun z => z.2 rfl)]
      rw [if_pos hg]
      exact zq_end hT h
