/-! Runes, strings and raw strings: their beginning, their end. -/
section
variable {T : Nat → Int32} {n : Nat}
theorem zm_opens_at (hT : zq_T T n) {N : zc_N} {M : zm_M} {a t k u : Nat} (h : zq_S T n N M a t k u) (ha : a < n) {s : Int32} (hx : ((zq_x T n a = 34 ∨ zq_x T n a = 39) ∧ s = 15) ∨ (zq_x T n a = 96 ∧ s = 16)) : ∃ Y : zm_M, zq_q T n Y (a + 1) u s (zq_x T n a) ∧ zq_D T n (zc_mark N) Y t k u ∧ zq_st T n (zc_mark N) Y a u ∧ Y.1 33 = 0 ∧ Y.1 41 = 0 ∧ Y.1 42 = nI u ∧ ∀ F : zm_M, zt Y F → zg M F := by
  have hn := hT.1
  have h9 := h
  obtain ⟨hD, hc, hm, -, h21, hta, hua⟩ := h9
  have h30 : M.1 30 < 0 := by rw [hD.2.2.1]; exact zq_m1
  have m0 := zq_mid_0 h
  have eg : zm_gap M (zq_x T n a) = zm_opens (zm_s (zm_begin M 0) 26 0) (zq_x T n a) s := by
    rcases hx with ⟨hx, hs⟩ | ⟨hx, hs⟩
    · rw [zm_gap_tok h30 hD.2.2.2.1.1.2.1 (by omega) (by rcases hx with z | z <;> rw [z] <;> decide) (by rcases hx with z | z <;> rw [z] <;> decide) (by rcases hx with z | z <;> rw [z] <;> decide) (by rcases hx with z | z <;> rw [z] <;> decide)]
      unfold zm_gapT
      rw [if_neg (by rcases hx with z | z <;> rw [z] <;> decide), if_neg (by rcases hx with z | z <;> rw [z] <;> decide), if_neg (by rcases hx with z | z <;> rw [z] <;> decide), if_neg (by rcases hx with z | z <;> rw [z] <;> decide), if_pos hx, hs]
    · rw [zm_gap_tok h30 hD.2.2.2.1.1.2.1 (by omega) (by rw [hx]; decide) (by rw [hx]; decide) (by rw [hx]; decide) (by rw [hx]; decide)]
      unfold zm_gapT
      rw [if_neg (by rw [hx]; decide), if_neg (by rw [hx]; decide), if_neg (by rw [hx]; decide), if_neg (by rw [hx]; decide), if_neg (by rw [hx]; decide), if_pos hx, hs]
  have hg : ∀ F : zm_M, zt (zm_fin (zm_opens (zm_s (zm_begin M 0) 26 0) (zq_x T n a) s) (zq_x T n a)) F → zg M F := by
    intro F hF
    unfold zg
    rw [zr_here_at hT hm (by omega), eg]
    exact hF
  generalize zm_s (zm_begin M 0) 26 0 = V at m0 hg
  obtain ⟨m1a, m1b, m1c, m1d⟩ := m0
  obtain ⟨O, eO⟩ : ∃ O : zm_M, O = zm_opens V (zq_x T n a) s := ⟨_, rfl⟩
  have o : ∀ j : Nat, j ≠ 21 → j ≠ 23 → j ≠ 24 → j ≠ 25 → j ≠ 32 → j ≠ 33 → j ≠ 36 → j ≠ 39 → j ≠ 41 → j ≠ 38 → j ≠ 42 → O.1 j = V.1 j := by
    intro j a1 a2 a3 a4 a6 a7 a8 a9 b1 b2 b3
    rw [eO]
    unfold zm_opens zm_begin
    show upd (upd (upd (upd (upd (upd (upd (upd (upd (upd (upd V.1 21 _) 23 _) 24 _) 25 _) 32 _) 33 _) 36 _) 39 _) 41 _) 38 _) 42 _ j = _
    simp only [zq_upd, if_neg a1, if_neg a2, if_neg a3, if_neg a4, if_neg a6, if_neg a7, if_neg a8, if_neg a9, if_neg b1, if_neg b2, if_neg b3]
  have e2 : O.2 = V.2 := by rw [eO]; rfl
  have o21 : O.1 21 = s := by rw [eO]; rfl
  have o23 : O.1 23 = V.1 27 := by rw [eO]; rfl
  have o24 : O.1 24 = V.1 28 := by rw [eO]; rfl
  have o25 : O.1 25 = V.1 27 - V.1 29 + 1 := by rw [eO]; rfl
  have o32 : O.1 32 = zq_x T n a := by rw [eO]; rfl
  have o33 : O.1 33 = 0 := by rw [eO]; rfl
  have o36 : O.1 36 = 0 := by rw [eO]; rfl
  have o39 : O.1 39 = 0 := by rw [eO]; rfl
  have o41 : O.1 41 = 0 := by rw [eO]; rfl
  have o42 : O.1 42 = V.1 15 := by rw [eO]; rfl
  rw [← eO] at hg
  clear eO eg
  have hDO : zq_D T n (zc_mark N) O t k u := zq_D_frame m1a m1a.1 (fun _ => rfl) (fun _ _ => rfl) e2 (fun j hj => o j (by omega) (by omega) (by omega) (by omega) (by omega) (by omega) (by omega) (by omega) (by omega) (by omega) (by omega))
  have hmO : zq_mt T n O a := zq_mt_eq m1c (fun j hj => o j (by omega) (by omega) (by omega) (by omega) (by omega) (by omega) (by omega) (by omega) (by omega) (by omega) (by omega)) (by rw [e2])
  have hDF := zq_D_fin hDO (zq_x T n a)
  have hmF := zm_fin_at hmO
  have f : ∀ k : Nat, k ≠ 27 → k ≠ 28 → k ≠ 29 → (zm_fin O (zq_x T n a)).1 k = O.1 k := fun k a b d => zm_fin_1 a b d
  have hK := hDF.2.2.2.1
  have f23 : (zm_fin O (zq_x T n a)).1 23 = nI a := by rw [f 23 (by decide) (by decide) (by decide), o23]; exact m1c.2.2.1
  refine ⟨zm_fin O (zq_x T n a), ⟨hmF, hDF.2.2.1, hK.1.2.2.2.2.1, ?_, ?_, ?_, ?_, t, a, by omega, hK.1.2.1, by omega, f23⟩, hDF, ⟨m1b.1, f23, ?_, ?_⟩, ?_, ?_, ?_, hg⟩
  · rw [f 36 (by decide) (by decide) (by decide)]; exact o36
  · rw [f 39 (by decide) (by decide) (by decide)]; exact o39
  · rw [f 32 (by decide) (by decide) (by decide)]; exact o32
  · rw [f 21 (by decide) (by decide) (by decide)]; exact o21
  · rw [f 24 (by decide) (by decide) (by decide), o24]; exact m1c.2.2.2.1
  · rw [f 25 (by decide) (by decide) (by decide), o25, m1c.2.2.1, m1c.2.2.2.2]
  · rw [f 33 (by decide) (by decide) (by decide)]; exact o33
  · rw [f 41 (by decide) (by decide) (by decide)]; exact o41
  · rw [f 42 (by decide) (by decide) (by decide), o42]; exact m1a.2.2.2.1.1.2.2.2.2.1
/-- both inside a string begun at a: its bytes in the pool from u to v -/
def zq_sI (T : Nat → Int32) (n : Nat) (N0 X : zc_N) (Y0 Y : zm_M) (c u v : Nat) (s q : Int32) : Prop := zc_I X ∧ zc_Fr N0 X ∧ zq_ct T n X c ∧ X.1 65 = 0 ∧ X.1 1 = nI v ∧ (∀ i : Nat, i < u → X.2.1 0 i = N0.2.1 0 i) ∧ (∀ i : Nat, u ≤ i → i < v → X.2.1 0 i = Y.2.1 16 i) ∧ zq_q T n Y c v s q ∧ zq_fr Y0 Y u ∧ Y.1 33 = 0 ∧ u ≤ v ∧ v ≤ c ∧ c ≤ n
/-- the end of a string -/
theorem zq_strE (hT : zq_T T n) {N0 X : zc_N} {Y0 Y : zm_M} {a c t k u v : Nat} {s q : Int32} (hD : zq_D T n N0 Y0 t k u) (hst : zq_st T n N0 Y0 a u) (h42 : Y0.1 42 = nI u) (h : zq_sI T n N0 X Y0 Y c u v s q) (hac : a < c) (hta : t ≤ a) (hq : (q = 34 ∧ s = 15) ∨ (q = 96 ∧ s = 16)) (hx : zq_x T n c = q) : zq_res T n (zc_putString (zc_step X) 1) Y c := by
  have hn := hT.1
  obtain ⟨hI, hFr, hct, h65, h1, hp0, hp1, hY, hfr, h33, huv, hvc, hcn⟩ := h
  have hlt : c < n := zq_lt (by rw [hx]; rcases hq with z | z <;> rw [z.1] <;> decide)
  have hY9 := hY
  obtain ⟨hmt, h30, h15, h36, h39, h32, h21, t9, a9, ht9, h3, ha9, h23⟩ := hY9
  obtain ⟨f1, f2, f3, f4⟩ := hfr
  have g : ∀ j : Nat, j ≠ 15 → j ≠ 21 → j ≠ 27 → j ≠ 28 → j ≠ 29 → (j < 33 ∨ 41 < j) → Y.1 j = Y0.1 j := f1
  have g3 : Y.1 3 = nI t := (g 3 (by decide) (by decide) (by decide) (by decide) (by decide) (by decide)).trans hD.2.2.2.1.1.2.1
  have g42 : Y.1 42 = nI u := (g 42 (by decide) (by decide) (by decide) (by decide) (by decide) (by decide)).trans h42
  have g23 : Y.1 23 = nI a := (g 23 (by decide) (by decide) (by decide) (by decide) (by decide) (by decide)).trans hst.2.1
  have hcs := zc_step_at hT hct hlt
  have hFs : zc_Fr N0 (zc_step X) := hFr.tr zf_step
  have s1 : ∀ j : Nat, j ≠ 62 → j ≠ 63 → j ≠ 64 → (zc_step X).1 j = X.1 j := fun j a b c => zc_step_1 a b c
  have s54 : (zc_step X).1 54 = nI a := (hFs.1 54 (by decide) (by decide) (by decide) (by decide) (by decide) (by decide)).trans hst.1.1
  have s55 : (zc_step X).1 55 = zq_ln T n a := (hFs.1 55 (by decide) (by decide) (by decide) (by decide) (by decide) (by decide)).trans hst.1.2.1
  have s56 : (zc_step X).1 56 = nI a - zq_ls T n a + 1 := (hFs.1 56 (by decide) (by decide) (by decide) (by decide) (by decide) (by decide)).trans hst.1.2.2.1
  have s57 : (zc_step X).1 57 = nI u := (hFs.1 57 (by decide) (by decide) (by decide) (by decide) (by decide) (by decide)).trans hst.1.2.2.2
  have el : (zc_step X).1 62 - (zc_step X).1 54 = nI (c + 1 - a) := by rw [hcs.2.2.1, s54, pk_sub (by omega)]
  have ep : zc_putString (zc_step X) 1 = zc_from (zc_step X) 5 (nI (c + 1 - a)) := by
    unfold zc_putString zc_putT
    rw [if_neg (by decide), el]
  rw [ep]
  have hK := hD.2.2.2.1.1
  obtain ⟨c1, c2, c3, c4, c5, c6, c7, c8, c9, c10⟩ := zq_from (zi_step hI) hFs hK.1 (show t < 16384 by omega) 5 (nI (c + 1 - a))
  -- the reference's token
  have eL : Y.1 27 + 1 - Y.1 23 = nI (c + 1 - a) := by rw [hmt.2.2.1, nI_1, g23, pk_sub (by omega)]
  have m3 : (zm_s Y 15 (nI u)).1 3 = nI t := g3
  obtain ⟨m1, ⟨m4, m5, m6, m7, m8, m9, m10, m11, m12, m13⟩, m2, m22⟩ := zm_token_at m3 (show t < 16384 by omega) 5 (nI (c + 1 - a)) 0
  have rw1 := zm_token_row m3 (show t < 16384 by omega) 5 (nI (c + 1 - a)) 0
  have hq39 : ¬ q = 39 := by rcases hq with z | z <;> rw [z.1] <;> decide
  have ecl : zm_close Y = zm_s (zm_a (zm_s (zm_token (zm_s Y 15 (nI u)) 5 (nI (c + 1 - a)) 0) 15 (nI v)) 13 (nI t) (nI (v - u))) 21 0 := by
    have d1 : (zm_token (zm_s Y 15 (nI u)) 5 (nI (c + 1 - a)) 0).1 30 < 0 := by
      rw [m1, zq_upd, if_neg (by decide)]
      show Y.1 30 < 0
      rw [h30]
      exact zq_m1
    have d2 : ¬ (zm_token (zm_s Y 15 (nI u)) 5 (nI (c + 1 - a)) 0).1 32 = 39 := by
      rw [m1, zq_upd, if_neg (by decide)]
      show ¬ Y.1 32 = 39
      rw [h32]
      exact hq39
    have d3 : (zm_token (zm_s Y 15 (nI u)) 5 (nI (c + 1 - a)) 0).1 3 - 1 = nI t := by rw [m1, zq_upd, if_pos rfl, nI_pred]
    have d4 : zr_q4 (Y.1 32) = 5 := by unfold zr_q4; rw [h32, if_neg hq39]
    unfold zm_close
    rw [if_neg (fun z => hq39 (h32.symm.trans z.1))]
    dsimp only
    rw [g42, eL, d4, if_neg (fun z => z d1), if_neg d2, d3, h15, pk_sub huv]
  obtain ⟨W, hW⟩ : ∃ W : zm_M, W = zm_token (zm_s Y 15 (nI u)) 5 (nI (c + 1 - a)) 0 := ⟨_, rfl⟩
  rw [← hW] at m1 m4 m5 m6 m7 m8 m9 m10 m11 m12 m13 m2 m22 ecl
  have rw1 : ∀ r j : Nat, 4 ≤ r → r ≤ 13 → j < t → W.2.1 r j = Y.2.1 r j := fun r j a b d => by rw [hW]; exact rw1 r j a b d
  clear hW
  obtain ⟨V, hV⟩ : ∃ V : zm_M, V = zm_s (zm_a (zm_s W 15 (nI v)) 13 (nI t) (nI (v - u))) 21 0 := ⟨_, rfl⟩
  rw [← hV] at ecl
  have vr : ∀ r : Nat, r ≠ 13 → V.2.1 r = W.2.1 r := by
    intro r hr
    rw [hV]
    show (if r = 13 then _ else W.2.1 r) = _
    rw [if_neg hr]
  have v13 : V.2.1 13 = upd (W.2.1 13) t (nI (v - u)) := by
    rw [hV]
    show (if 13 = 13 then upd (W.2.1 13) (nI t).toNatClampNeg (nI (v - u)) else W.2.1 13) = _
    rw [if_pos rfl, nI_clamp (by omega)]
  have v22 : V.2.2 = W.2.2 := by rw [hV]
  have v21 : V.1 21 = 0 := by rw [hV]; rfl
  have v15 : V.1 15 = nI v := by rw [hV]; rfl
  have vo : ∀ j : Nat, j ≠ 15 → j ≠ 21 → V.1 j = W.1 j := fun j a b => by
    rw [hV]
    show upd (upd W.1 15 _) 21 _ j = _
    rw [zq_upd, if_neg b, zq_upd, if_neg a]
  clear hV
  have wo : ∀ j : Nat, j ≠ 3 → j ≠ 15 → W.1 j = Y.1 j := fun j a b => by
    rw [m1, zq_upd, if_neg a]
    show upd Y.1 15 _ j = _
    rw [zq_upd, if_neg b]
  have hDV : zq_D T n (zc_from (zc_step X) 5 (nI (c + 1 - a))) V (t + 1) k (u + (v - u)) := by
    refine zq_D_tok hD (show t < 16384 by omega) (by omega) c1 c2 ?_ ?_ c3 (fun b hb => c4 b (by omega) (by omega)) c6 (fun i hi => ?_) c7 ?_ ?_ ?_ ?_ (fun r x y j hj => ?_) (fun b hb => ?_) (fun i hi => ?_) (fun j hj => ?_) ?_ ?_ ?_ ?_ ?_ ?_ ?_ ?_ ?_ ?_ ?_ ?_ (fun i hi => ?_) (fun z => absurd z (show ¬ (5 : Int32) = 2 by decide)) (fun z => absurd z (show ¬ (5 : Int32) = 4 by decide))
    · rw [c8 1 (by decide) (by decide), s1 1 (by decide) (by decide) (by decide), h1, show u + (v - u) = v from by omega]
    · rw [c8 65 (by decide) (by decide), s1 65 (by decide) (by decide) (by decide)]; exact h65
    · rw [c5, zc_step_2]; exact hp0 i hi
    · rw [vo 3 (by decide) (by decide), m1, zq_upd, if_pos rfl]
    · rw [v15, show u + (v - u) = v from by omega]
    · rw [vo 17 (by decide) (by decide), wo 17 (by decide) (by decide)]; exact g 17 (by decide) (by decide) (by decide) (by decide) (by decide) (by decide)
    · rw [vo 30 (by decide) (by decide), wo 30 (by decide) (by decide)]; exact h30
    · by_cases z : r = 13
      · subst z
        rw [v13, zq_upd, if_neg (by omega), rw1 13 j x y hj, f2 13 (by decide)]
      · rw [vr r z, rw1 r j x y hj, f2 r (by omega)]
    · rw [vr b (by omega), m2 b (by omega)]
      exact f2 b (by omega)
    · rw [vr 16 (by decide), m2 16 (by decide)]
      exact f3 i hi
    · rw [v22, m22]
      show (if j = t then _ else Y.2.2 j) = Y0.2.2 j
      rw [if_neg (by omega), f4]
    · rw [vr 4 (by decide), m4, zq_upd, if_pos rfl]; rfl
    · rw [vr 5 (by decide), m5, zq_upd, if_pos rfl]
      show Y.1 23 = (zc_step X).1 54
      rw [g23, s54]
    · rw [vr 6 (by decide), m6, zq_upd, if_pos rfl]
      show Y.1 24 = (zc_step X).1 55
      rw [g 24 (by decide) (by decide) (by decide) (by decide) (by decide) (by decide), s55]
      exact hst.2.2.1
    · rw [vr 7 (by decide), m7, zq_upd, if_pos rfl]
      show Y.1 25 = (zc_step X).1 56
      rw [g 25 (by decide) (by decide) (by decide) (by decide) (by decide) (by decide), s56]
      exact hst.2.2.2
    · rw [vr 8 (by decide), m8, zq_upd, if_pos rfl]; rfl
    · rw [vr 9 (by decide), m9, zq_upd, if_pos rfl]; rfl
    · rw [vr 10 (by decide), m10, zq_upd, if_pos rfl]; rfl
    · rw [vr 11 (by decide), m11, zq_upd, if_pos rfl]; rfl
    · show (zc_step X).1 1 - (zc_step X).1 57 = _
      rw [s1 1 (by decide) (by decide) (by decide), h1, s57, pk_sub huv]
    · rw [v13, zq_upd, if_pos rfl]
    · exact s57
    · rw [vr 12 (by decide), m12, zq_upd, if_pos rfl]; rfl
    · rw [c5, zc_step_2, hp1 (u + i) (by omega) (by omega), vr 16 (by decide), m2 16 (by decide)]
  rw [show u + (v - u) = v from by omega] at hDV
  have hmV : zq_mt T n V c := zq_mt_eq hmt (fun j hj => by rw [vo j (by omega) (by omega), wo j (by omega) (by omega)]) (by rw [vr 1 (by decide), m2 1 (by decide)])
  have hcF : zq_ct T n (zc_from (zc_step X) 5 (nI (c + 1 - a))) (c + 1) := zq_ct_eq hcs (fun j hj => c8 j (by omega) (by omega)) (by rw [c4 60 (by decide) (by decide)]; exact (hFs.2.1 60 (by decide)).symm)
  obtain ⟨S1, S2⟩ := zq_arrive hT hDV hcF hmV hlt v21 (by omega) (by omega)
  refine Or.inr ⟨_, c + 1, t + 1, k, v, by omega, S1, fun F hF => ?_⟩
  refine zt_step hT hmt hcn (by rw [h30]; exact zq_m1) (zm_ok_q (D := 0) (by rw [h21]; rcases hq with z | z <;> rw [z.2] <;> simp) ht9 h3 ha9 h23 h15 (by omega) (by omega) (fun z => absurd z (by rw [h36]; decide))) ?_
  have es : zm_step Y (zq_x T n c) = V := by
    rw [zm_step_q (by rw [h21]; rcases hq with z | z; exact Or.inl z.2; exact Or.inr z.2)]
    unfold zm_quoted
    rw [if_neg (by rw [h33]; decide), if_neg (by rw [h36]; decide), if_neg (fun z => z h39), if_pos (by rw [h32, hx]), ecl]
  rw [es]
  exact S2 F hF
end
