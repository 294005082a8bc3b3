/-! Comments. -/
theorem zq_D_fr {T : Nat → Int32} {n : Nat} {N X : zc_N} {M Y : zm_M} {t k u : Nat} (h : zq_D T n N M t k u) (hI : zc_I X) (h2 : ∀ a : Nat, X.2.1 a = N.2.1 a) (h1 : ∀ j : Nat, j = 71 ∨ j = 1 ∨ j = 24 ∨ j = 65 ∨ j = 58 → X.1 j = N.1 j) (hf : zq_fr M Y u) (h15 : Y.1 15 = nI u) : zq_D T n X Y t k u := by
  have h9 := h
  obtain ⟨d1, d2, d3, ⟨d4, d5, d6⟩, ⟨d7, d8, d9, d10⟩, d11⟩ := h9
  obtain ⟨f1, f2, f3, f4⟩ := hf
  have g3 : Y.1 3 = M.1 3 := f1 3 (by decide) (by decide) (by decide) (by decide) (by decide) (by decide)
  refine zq_D_add h hI ⟨⟨?_, ?_, Nat.le_refl _, d5⟩, ⟨?_, h15, Nat.le_refl _, d6⟩, fun i _ => by rw [h2], fun i _ => by rw [h2], fun r a b j _ => by rw [f2 r (by omega)], f3, fun j _ => by rw [f4]⟩ (fun j a b => absurd a (by omega)) (fun j a b => absurd a (by omega)) ?_ ?_ ?_ ?_ (fun a _ => by rw [h2]) (fun a ha => f2 a (by omega)) ?_
  · rw [h1 71 (by simp)]; exact d4.1
  · rw [g3]; exact d4.2.1
  · rw [h1 1 (by simp)]; exact d4.2.2.2.1
  · rw [h1 65 (by simp)]; exact d2
  · rw [f1 30 (by decide) (by decide) (by decide) (by decide) (by decide) (by decide)]; exact d3
  · exact h1 24 (by simp)
  · exact f1 17 (by decide) (by decide) (by decide) (by decide) (by decide) (by decide)
  · rw [h1 58 (by simp), d11]
    unfold zr_last
    rw [g3, f2 4 (by decide)]
theorem zm_character_21 {Y : zm_M} {x : Int32} : (zm_character Y x).1 21 = Y.1 21 := by
  have e1 : ∀ (M : zm_M) (x : Int32), (zm_charK M x).1 21 = M.1 21 := by
    intro M x
    unfold zm_charK
    split
    · rfl
    · unfold zm_keep
      show upd M.1 15 (M.1 15 + 1) 21 = _
      rw [zq_upd, if_neg (by decide)]
  have e2 : ∀ M : zm_M, (zm_error M).1 21 = M.1 21 := by
    intro M
    unfold zm_error
    split
    · show upd M.1 30 (M.1 27) 21 = _
      rw [zq_upd, if_neg (by decide)]
    · rfl
  unfold zm_character
  split
  · rw [e1]
    rfl
  · dsimp only
    split
    · rw [e2]
      rfl
    · rw [e1]
      rfl
/-- a plain byte in a comment -/
theorem zm_quoted_c {Y : zm_M} {x : Int32} (h33 : Y.1 33 = 0) (h36 : Y.1 36 = 0) (h39 : Y.1 39 = 0) (h32 : Y.1 32 = 0) (h0 : ¬ x = 0) (h1 : ¬ x = -1) : zm_quoted Y x = zm_character Y x := by
  unfold zm_quoted
  rw [if_neg (by rw [h33]; decide), if_neg (by rw [h36]; decide), if_neg (fun z => z h39), if_neg (by rw [h32]; exact h0), if_neg, if_neg]
  · exact fun z => z.2.2 h32
  · rintro (z | z | z)
    · exact h1 z
    · exact h0 z
    · exact z.2.2 h32
section
variable {T : Nat → Int32} {n : Nat}
/-- the beginning of a comment: the reference behind its second byte -/
theorem zm_slash_at (hT : zq_T T n) {N : zc_N} {M : zm_M} {a t k u : Nat} (h : zq_S T n N M a t k u) (ha : a < n) (hx : zq_x T n a = 47) (hy : zq_x T n (a + 1) = 47 ∨ zq_x T n (a + 1) = 42) : ∃ Y : zm_M, zq_mid T n (zc_mark N) Y (a + 1) a t k u (zr_sl (zq_x T n (a + 1))) ∧ Y.1 31 = 0 ∧ Y.1 32 = 0 ∧ Y.1 33 = 0 ∧ Y.1 36 = 0 ∧ Y.1 39 = 0 ∧ ∀ F : zm_M, zt (zm_fin (if zq_x T n (a + 1) = 47 then zm_semicolon Y else Y) (zq_x T n (a + 1))) F → zg M F := by
  have hn := hT.1
  have h9 := h
  obtain ⟨hD, hc, hm, -, h21, hta, hua⟩ := h9
  have h30 : M.1 30 < 0 := by rw [hD.2.2.1]; exact zq_m1
  have m0 := zq_mid_0 h
  have eg : zm_gap M (zq_x T n a) = zm_s (zm_s (zm_begin M 0) 26 0) 21 17 := by rw [hx]; exact zm_gap_47 h30
  have m1 := zq_mid_fin (zq_mid_s m0 21 17 (by decide))
  rw [if_pos rfl] at m1
  have hK := m1.1.2.2.2.1
  have hg : ∀ F : zm_M, zt (zm_fin (zm_slash (zm_fin (zm_s (zm_s (zm_begin M 0) 26 0) 21 17) (zq_x T n a)) (zq_x T n (a + 1))) (zq_x T n (a + 1))) F → zg M F := by
    intro F hF
    unfold zg
    rw [zr_here_at hT hm (by omega), eg]
    refine zt_step hT m1.2.2.1 ha (by rw [m1.1.2.2.1]; exact zq_m1) (zm_ok_14 (t := t) (Or.inr m1.2.2.2) (zm_T_at hK.1.2.1 hK.2.1) m1.2.2.1.2.2.1 m1.2.1.2.1 (by omega) (by omega)) ?_
    rw [zm_step_17 m1.2.2.2]
    exact hF
  generalize zm_fin (zm_s (zm_s (zm_begin M 0) 26 0) 21 17) (zq_x T n a) = V at m1 hg
  obtain ⟨m1a, m1b, m1c, m1d⟩ := m1
  obtain ⟨Y, eY⟩ : ∃ Y : zm_M, Y = zm_s (zm_s (zm_s (zm_s (zm_opens V 0 (zr_sl (zq_x T n (a + 1)))) 23 (V.1 23)) 24 (V.1 24)) 25 (V.1 25)) 31 0 := ⟨_, rfl⟩
  have o : ∀ j : Nat, j ≠ 21 → j ≠ 23 → j ≠ 24 → j ≠ 25 → j ≠ 31 → j ≠ 32 → j ≠ 33 → j ≠ 36 → j ≠ 39 → j ≠ 41 → j ≠ 38 → j ≠ 42 → Y.1 j = V.1 j := by
    intro j a1 a2 a3 a4 a5 a6 a7 a8 a9 b1 b2 b3
    rw [eY]
    unfold zm_opens zm_begin
    show upd (upd (upd (upd (upd (upd (upd (upd (upd (upd (upd (upd (upd (upd (upd V.1 21 _) 23 _) 24 _) 25 _) 32 _) 33 _) 36 _) 39 _) 41 _) 38 _) 42 _) 23 _) 24 _) 25 _) 31 _ j = _
    simp only [zq_upd, if_neg a1, if_neg a2, if_neg a3, if_neg a4, if_neg a5, if_neg a6, if_neg a7, if_neg a8, if_neg a9, if_neg b1, if_neg b2, if_neg b3]
  have e2 : Y.2 = V.2 := by rw [eY]; rfl
  have y21 : Y.1 21 = zr_sl (zq_x T n (a + 1)) := by rw [eY]; rfl
  have y23 : Y.1 23 = V.1 23 := by rw [eY]; rfl
  have y24 : Y.1 24 = V.1 24 := by rw [eY]; rfl
  have y25 : Y.1 25 = V.1 25 := by rw [eY]; rfl
  refine ⟨Y, ⟨zq_D_frame m1a m1a.1 (fun _ => rfl) (fun _ _ => rfl) e2 (fun j hj => o j (by omega) (by omega) (by omega) (by omega) (by omega) (by omega) (by omega) (by omega) (by omega) (by omega) (by omega) (by omega)), ⟨m1b.1, y23.trans m1b.2.1, y24.trans m1b.2.2.1, y25.trans m1b.2.2.2⟩, zq_mt_eq m1c (fun j hj => o j (by omega) (by omega) (by omega) (by omega) (by omega) (by omega) (by omega) (by omega) (by omega) (by omega) (by omega) (by omega)) (by rw [e2]), y21⟩, by rw [eY]; rfl, by rw [eY]; rfl, by rw [eY]; rfl, by rw [eY]; rfl, by rw [eY]; rfl, fun F hF => hg F ?_⟩
  have e : zm_slash V (zq_x T n (a + 1)) = if zq_x T n (a + 1) = 47 then zm_semicolon Y else Y := by
    unfold zm_slash
    rw [if_pos hy, eY]
  rw [e]
  exact hF
/-- both in a comment begun at a, at byte c -/
def zq_C (T : Nat → Int32) (n : Nat) (X : zc_N) (Y : zm_M) (c a t k u : Nat) (s : Int32) : Prop := zq_D T n X Y t k u ∧ zq_st T n X Y a u ∧ zq_ct T n X c ∧ zq_q T n Y c u s 0 ∧ Y.1 33 = 0 ∧ c ≤ n
theorem zq_C_char {X : zc_N} {Y Y' : zm_M} {c d a t k u : Nat} {s s' : Int32} (h : zq_C T n X Y c a t k u s) (hc : zq_ct T n (zc_char X) (c + d)) (hI : zc_I (zc_char X)) (h2 : (zc_char X).2 = X.2) (h1 : ∀ i : Nat, i ≠ 62 → i ≠ 63 → i ≠ 64 → (zc_char X).1 i = X.1 i) (hY : zq_q T n Y' (c + d) u s' 0) (hf : zq_fr Y Y' u) (h33 : Y'.1 33 = 0) (hn : c + d ≤ n) : zq_C T n (zc_char X) Y' (c + d) a t k u s' := by
  obtain ⟨g1, ⟨⟨g2, g3, g4, g5⟩, g6, g7, g8⟩, -, -, -, -⟩ := h
  have f1 := hf.1
  refine ⟨zq_D_fr g1 hI (fun _ => by rw [h2]) (fun j hj => h1 j (by omega) (by omega) (by omega)) hf hY.2.2.1, ⟨⟨?_, ?_, ?_, ?_⟩, ?_, ?_, ?_⟩, hc, hY, h33, hn⟩
  · rw [h1 54 (by decide) (by decide) (by decide)]; exact g2
  · rw [h1 55 (by decide) (by decide) (by decide)]; exact g3
  · rw [h1 56 (by decide) (by decide) (by decide)]; exact g4
  · rw [h1 57 (by decide) (by decide) (by decide)]; exact g5
  · rw [f1 23 (by decide) (by decide) (by decide) (by decide) (by decide) (by decide)]; exact g6
  · rw [f1 24 (by decide) (by decide) (by decide) (by decide) (by decide) (by decide)]; exact g7
  · rw [f1 25 (by decide) (by decide) (by decide) (by decide) (by decide) (by decide)]; exact g8
/-- one character of a comment -/
theorem zq_cchar (hT : zq_T T n) {X : zc_N} {Y : zm_M} {c a t k u : Nat} {s : Int32} (h : zq_C T n X Y c a t k u s) (hs : s = 18 ∨ s = 19 ∨ s = 20) (hu : u ≤ 10240) (h18 : s = 18 → ¬ zq_x T n c = 10 ∧ ¬ zq_x T n c = -1) (h20 : s = 20 → ¬ zq_x T n c = 47) (h10 : zq_x T n c = 10 → ¬ Y.1 31 = 0) : (zk_char X = -1 ∧ zq_er n (zc_char X) Y) ∨ (¬ zk_char X = -1 ∧ ∃ (d : Nat) (Y' : zm_M), 1 ≤ d ∧ (128 ≤ zq_v T c ∨ d = 1) ∧ zq_C T n (zc_char X) Y' (c + d) a t k u (if s = 18 then 18 else zr_cm (zq_x T n c)) ∧ Y'.1 31 = Y.1 31 ∧ Y'.1 3 = Y.1 3 ∧ Y'.2.1 4 = Y.2.1 4 ∧ ∀ F : zm_M, zt Y' F → zt Y F) := by
  have hn := hT.1
  have h9 := h
  obtain ⟨hD, hst, hct, hY, h33, hcn⟩ := h9
  have hY9 := hY
  obtain ⟨hmt, h30, h15, h36, h39, h32, h21, t9, a9, ht9, h3, ha9, h23⟩ := hY9
  have hs5 : s = 15 ∨ s = 16 ∨ s = 18 ∨ s = 19 ∨ s = 20 := by rcases hs with z | z | z <;> simp [z]
  have hce : zm_step Y (zq_x T n c) = if zq_x T n c = 0 then zm_error Y else if (zm_quoted Y (zq_x T n c)).1 21 = 18 then zm_quoted Y (zq_x T n c) else zm_s (zm_quoted Y (zq_x T n c)) 21 (zr_cm (zq_x T n c)) := by
    refine zm_comm_eq (by rw [h21]; exact hs) h32 (fun z => ?_) (fun z => h20 (h21.symm.trans z.1) z.2) (fun z => h10 z.1 z.2.2)
    obtain ⟨z1, z2, -⟩ := z
    have := h18 (h21.symm.trans z1)
    rcases z2 with z2 | z2
    · exact this.1 z2
    · exact this.2 z2
  have hh : zk_here X = zq_x T n c := zk_here_at hT hct (by omega)
  have hfail : (zq_x T n c = 0 ∨ zq_x T n c = -1) → zk_char X = -1 ∧ zq_er n (zc_char X) Y := by
    intro z
    have l1 : zk_here X < 128 := by rw [hh]; rcases z with z | z <;> rw [z] <;> decide
    have l2 : ¬ 0 < zk_here X := by rw [hh]; rcases z with z | z <;> rw [z] <;> decide
    have e1 : zk_char X = -1 := by unfold zk_char; rw [if_pos l1, if_neg l2]
    have e2 : zc_char X = zc_refuse X := by unfold zc_char; rw [if_pos l1, if_neg l2]
    rw [e2]
    refine ⟨e1, zq_er_mk hD.1 hct hcn (zq_stop30 (Y' := Y) hT hY hs5 hcn (by omega) ?_)⟩
    rw [hce]
    rcases z with z | z
    · rw [if_pos z]
      exact zm_error_30 h30
    · have eq : zm_quoted Y (zq_x T n c) = zm_error Y := by
        unfold zm_quoted
        rw [if_neg (by rw [h33]; decide), if_neg (by rw [h36]; decide), if_neg (fun z => z h39), if_neg (by rw [h32, z]; decide), if_pos (Or.inl z)]
      rw [eq]
      split
      · exact zm_error_30 h30
      · split
        · exact zm_error_30 h30
        · show upd (zm_error Y).1 21 (zr_cm (zq_x T n c)) 30 = _
          rw [zq_upd, if_neg (by decide)]
          exact zm_error_30 h30
  by_cases c1 : c < n
  · obtain ⟨w1, w2, w3⟩ := zq_vx hT c1
    by_cases c0 : zq_v T c = 0
    · exact Or.inl (hfail (Or.inl (by rw [w2, c0]; rfl)))
    · have n0 : ¬ zq_x T n c = 0 := by rw [w2]; exact fun z => c0 (z_injC (b := 0) (by omega) (by omega) z)
      have n1 : ¬ zq_x T n c = -1 := by rw [w2]; exact zq_nm1 _ w1
      have e21 : (zm_character Y (zq_x T n c)).1 21 = s := zm_character_21.trans h21
      have hstep : zm_step Y (zq_x T n c) = zm_s (zm_character Y (zq_x T n c)) 21 (if s = 18 then 18 else zr_cm (zq_x T n c)) := by
        rw [hce, if_neg n0, zm_quoted_c h33 h36 h39 h32 n0 n1, e21]
        by_cases z : s = 18
        · rw [if_pos z, if_pos z, zm_s_same (e21.trans z)]
        · rw [if_neg z, if_neg z]
      have hcm : zr_cm (zq_x T n c) = 19 ∨ zr_cm (zq_x T n c) = 20 := by
        unfold zr_cm
        split
        · exact Or.inr rfl
        · exact Or.inl rfl
      have hs' : (if s = 18 then (18 : Int32) else zr_cm (zq_x T n c)) = 15 ∨ (if s = 18 then (18 : Int32) else zr_cm (zq_x T n c)) = 16 ∨ (if s = 18 then (18 : Int32) else zr_cm (zq_x T n c)) = 18 ∨ (if s = 18 then (18 : Int32) else zr_cm (zq_x T n c)) = 19 ∨ (if s = 18 then (18 : Int32) else zr_cm (zq_x T n c)) = 20 := by
        by_cases z : s = 18
        · simp [z]
        · rw [if_neg z]
          rcases hcm with y | y <;> simp [y]
      have hmd : 128 ≤ zq_v T c → zq_md (if s = 18 then 18 else zr_cm (zq_x T n c)) 0 := by
        intro hv
        refine Or.inr ⟨?_, rfl⟩
        by_cases z : s = 18
        · rw [if_pos z]; exact Or.inl rfl
        · rw [if_neg z]
          refine Or.inr ?_
          unfold zr_cm
          rw [w2, if_neg (show ¬ nI (zq_v T c) = 42 from fun y => absurd (z_injC (b := 42) (by omega) (by omega) y) (by omega))]
      generalize (if s = 18 then (18 : Int32) else zr_cm (zq_x T n c)) = s' at hstep hs' hmd ⊢
      rcases zq_char hT hY h33 hs5 c1 (by omega) (by omega) hstep hs' hmd hD.1 hct with r | ⟨d, m, d1, d2, d3, d4, -, d5, d6, d7, d8, d9, Y', w, y1, y2, y3, y4, y5, y6, y7, y8⟩
      · exact Or.inl r
      · rw [if_pos (Or.inl rfl)] at y6
        subst y6
        rw [Nat.add_zero] at y1
        have f1 := y2.1
        refine Or.inr ⟨by rw [d3]; exact zq_nm1' m (by omega), d, Y', d1, ?_, zq_C_char h d5 d6 d7 d8 y1 y2 y3 d2, f1 31 (by decide) (by decide) (by decide) (by decide) (by decide) (by decide), f1 3 (by decide) (by decide) (by decide) (by decide) (by decide) (by decide), y2.2.1 4 (by decide), y8⟩
        rcases Nat.lt_or_ge (zq_v T c) 128 with z | z
        · right
          have ec : zc_char X = zc_step X := by
            unfold zc_char
            rw [hh, w2, if_pos (show nI (zq_v T c) < 128 from nI_lt (b := 128) z (by omega)), if_pos (show 0 < nI (zq_v T c) from nI_lt (a := 0) (by omega) (by omega))]
          have e1 := d5.2.2.1
          have e2 := (zc_step_at hT hct c1).2.2.1
          rw [ec] at e1
          have := z_injC (by omega) (by omega) (e1.symm.trans e2)
          omega
        · exact Or.inl z
  · have e : c = n := by omega
    exact Or.inl (hfail (Or.inr (zq_xe (by omega))))
end
