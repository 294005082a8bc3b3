/-! Numbers: digit by digit. -/
theorem zm_step_num {Y : zm_M} (h : ¬ Y.1 21 < 2 ∧ ¬ 11 < Y.1 21) (x : Int32) : zm_step Y x = zm_numeral Y x := by
  unfold zm_step
  rw [if_neg (fun z => h.1 (by rw [z]; decide)), if_neg (fun z => h.1 (by rw [z.1]; decide)), if_neg (fun z => h.1 (by rw [z]; decide)), if_pos h]
section
variable {T : Nat → Int32} {n : Nat} {N0 : zc_N} {Y : zm_M} {a c t k u : Nat} {s : Int32}
theorem zm_ok_num (hT : zq_T T n) (h : zq_mid T n N0 Y c a t k u s) (hs : ¬ s < 2 ∧ ¬ 11 < s) (hc : c ≤ n) (hac : a < c) (hua : u ≤ a) : zm_ok Y := by
  have hn := hT.1
  obtain ⟨hD, hst, hmt, h21⟩ := h
  have hK := hD.2.2.2.1
  have hB : zm_B Y := ⟨c, a, u, hmt.2.2.1, hst.2.1, hK.1.2.2.2.2.1, by omega, by omega, hua⟩
  rw [← h21] at hs
  refine ⟨0, 0, zm_T_at hK.1.2.1 hK.2.1, fun z => absurd (by rw [z]; decide) hs.1, fun _ _ => ⟨hB, fun _ => ?_⟩, fun z => ?_, fun z => ?_⟩
  · obtain ⟨c', rfl⟩ : ∃ c', c = c' + 1 := ⟨c - 1, by omega⟩
    rw [hmt.2.2.1, nI_pred]
    exact vp_in_nI (by omega) (by omega)
  · exfalso
    apply hs.2
    rcases z with z | z <;> rw [z] <;> decide
  · exfalso
    rcases z with z | z | z
    · exact hs.2 (by rw [z]; decide)
    · exact hs.2 (by rw [z]; decide)
    · rcases z.2.2.1 with y | y
      · exact hs.1 y
      · exact hs.2 y
theorem zq_nst (hT : zq_T T n) (h : zq_mid T n N0 Y c a t k u s) (hs : ¬ s < 2 ∧ ¬ 11 < s) (hc : c ≤ n) (hac : a < c) (hua : u ≤ a) {R : zm_M} {s' : Int32} (hR : zm_numeral Y (zq_x T n c) = R) (hR2 : zq_mid T n N0 R c a t k u s') : ∃ Y' : zm_M, zq_mid T n N0 Y' (c + 1) a t k u s' ∧ Y'.1 26 = R.1 26 ∧ Y'.1 22 = R.1 22 ∧ ∀ F : zm_M, zt Y' F → zt Y F := by
  refine ⟨zm_fin R (zq_x T n c), zq_mid_fin hR2, zm_fin_1 (by decide) (by decide) (by decide), zm_fin_1 (by decide) (by decide) (by decide), fun F hF => ?_⟩
  refine zt_step hT h.2.2.1 hc (by rw [h.1.2.2.1]; exact zq_m1) (zm_ok_num hT h hs hc hac hua) ?_
  rw [zm_step_num (by rw [h.2.2.2]; exact hs), hR]
  exact hF
theorem zq_nerr (hT : zq_T T n) (h : zq_mid T n N0 Y c a t k u s) (hs : ¬ s < 2 ∧ ¬ 11 < s) (hc : c ≤ n) (hac : a < c) (hua : u ≤ a) (hR : (zm_numeral Y (zq_x T n c)).1 30 = Y.1 27) : ∃ F : zm_M, F.1 30 = nI c ∧ zt Y F := by
  have hn := hT.1
  have e : (zm_fin (zm_step Y (zq_x T n c)) (zq_x T n c)).1 30 = nI c := by
    rw [zm_fin_1 (by decide) (by decide) (by decide), zm_step_num (by rw [h.2.2.2]; exact hs), hR, h.2.2.1.2.2.1]
  exact ⟨_, e, zt_step hT h.2.2.1 hc (by rw [h.1.2.2.1]; exact zq_m1) (zm_ok_num hT h hs hc hac hua) (zt_stop (by rw [e]; exact nI_pos (by omega)))⟩
end
section
variable {Y : zm_M} {s x : Int32}
theorem zn_dig0 (h21 : Y.1 21 = s) (hs : ¬ s = 11) (h26 : Y.1 26 = 0) (hd : ¬ zr_digit x = 0) : zm_numeral Y x = zm_s Y 21 (zr_st2 s x) := by
  unfold zm_numeral
  rw [h21, if_neg hs, if_neg (fun z => z h26), if_neg (fun z => hd z.2.1), if_pos hd]
theorem zn_dig1 (h21 : Y.1 21 = s) (hs : ¬ s = 11) (h26 : ¬ Y.1 26 = 0) (hd : ¬ zr_digit x = 0) : zm_numeral Y x = zm_s (zm_s Y 26 0) 21 (zr_st1 s x) := by
  unfold zm_numeral
  rw [h21, if_neg hs, if_pos h26, if_pos hd]
theorem zn_und (h21 : Y.1 21 = s) (hs : ¬ s = 11) (hs6 : ¬ s = 6) (h26 : Y.1 26 = 0) (hx : x = 95) : zm_numeral Y x = zm_s (zm_s Y 21 (zr_st3 s)) 26 1 := by
  unfold zm_numeral
  rw [h21, if_neg hs, if_neg (fun z => z h26), if_neg (fun z => z.2.2.1 hx), if_neg (fun z => z (by rw [hx]; decide)), if_pos ⟨hx, hs6⟩]
theorem zn_err1 (h21 : Y.1 21 = s) (hs : ¬ s = 11) (h26 : ¬ Y.1 26 = 0) (hd : zr_digit x = 0) (h8 : ¬ (s = 8 ∧ (x = 43 ∨ x = 45))) : zm_numeral Y x = zm_error Y := by
  unfold zm_numeral
  rw [h21, if_neg hs, if_pos h26, if_neg (fun z => z hd), if_neg h8]
theorem zn_dot (h21 : Y.1 21 = s) (hs : s = 2 ∨ s = 3 ∨ s = 4 ∨ s = 5) (h26 : Y.1 26 = 0) (hx : x = 46) : zm_numeral Y x = zm_s Y 21 6 := by
  have hs11 : ¬ s = 11 := by rcases hs with z | z | z | z <;> rw [z] <;> decide
  unfold zm_numeral
  rw [h21, if_neg hs11, if_neg (fun z => z h26), if_neg (fun z => z.2.2.2.1 (by rw [hx]; decide)), if_neg (fun z => z (by rw [hx]; decide)), if_neg (fun z => absurd z.1 (by rw [hx]; decide)), if_pos ⟨hx, hs⟩]
theorem zn_e (h21 : Y.1 21 = s) (hs : ¬ s = 11) (hs10 : ¬ s = 10) (h26 : Y.1 26 = 0) (hx : x = 101 ∨ x = 69) : zm_numeral Y x = zm_s (zm_s Y 21 8) 26 1 := by
  have he : ¬ zr_e x = 0 := by rcases hx with z | z <;> rw [z] <;> decide
  have h1 : zr_digit x = 0 := by rcases hx with z | z <;> rw [z] <;> decide
  have h2 : ¬ x = 95 := by rcases hx with z | z <;> rw [z] <;> decide
  have h3 : ¬ x = 46 := by rcases hx with z | z <;> rw [z] <;> decide
  unfold zm_numeral
  rw [h21, if_neg hs, if_neg (fun z => z h26), if_neg (fun z => he z.2.2.2.2), if_neg (fun z => z h1), if_neg (fun z => h2 z.1), if_neg (fun z => h3 z.1), if_pos ⟨he, hs10⟩]
theorem zn_sgn (h21 : Y.1 21 = 8) (h26 : ¬ Y.1 26 = 0) (hx : x = 43 ∨ x = 45) : zm_numeral Y x = zm_s Y 21 9 := by
  unfold zm_numeral
  rw [h21, if_neg (by decide), if_pos h26, if_neg (fun z => z (by rcases hx with z | z <;> rw [z] <;> decide)), if_pos ⟨rfl, hx⟩]
theorem zr_radix_base : ∀ v : Nat, v < 256 → (zr_digit (nI v) = 0 ∧ ¬ nI v = 95 ∧ ¬ zr_letter (nI v) = 0 ∧ zr_e (nI v) = 0) → ((zk_baseL (nI v) = -1 ∧ zr_radix (nI v) = 0) ∨ (zk_baseL (nI v) = zr_radix (nI v) ∧ ¬ zr_radix (nI v) = 0 ∧ ¬ zk_baseL (nI v) = -1)) := by decide +kernel
/-- a number's end, or no number -/
theorem zn_fin (h21 : Y.1 21 = s) (hs : ¬ s = 11) (h26 : Y.1 26 = 0) (h30 : Y.1 30 = -1) (hd : zr_digit x = 0) (hx : x = 95 → s = 6) (h46 : ¬ (x = 46 ∧ (s = 2 ∨ s = 3 ∨ s = 4 ∨ s = 5))) (he : ¬ (¬ zr_e x = 0 ∧ ¬ s = 10)) (h2 : s = 2 → ¬ x = 95 → ¬ zr_letter x = 0 → zr_radix x = 0) : ((¬ zr_letter x = 0 ∨ s = 4) → (zm_numeral Y x).1 30 = Y.1 27) ∧ (¬ (¬ zr_letter x = 0 ∨ s = 4) → zm_numeral Y x = zm_ends (zm_s Y 22 (zr_st4 s)) (zr_st5 s)) := by
  have h95 : ¬ (x = 95 ∧ ¬ s = 6) := fun z => z.2 (hx z.1)
  by_cases c2 : s = 2 ∧ zr_digit x = 0 ∧ ¬ x = 95 ∧ ¬ zr_letter x = 0 ∧ zr_e x = 0
  · have e : zm_numeral Y x = zm_s (zm_s (zm_error (zm_s Y 22 (zr_radix x))) 21 11) 26 1 := by
      unfold zm_numeral
      rw [h21, if_neg hs, if_neg (fun z => z h26), if_pos c2]
      dsimp only
      rw [if_pos (h2 c2.1 c2.2.2.1 c2.2.2.2.1)]
    refine ⟨fun _ => ?_, fun z => absurd (Or.inl c2.2.2.2.1) z⟩
    rw [e]
    show (zm_error (zm_s Y 22 (zr_radix x))).1 30 = _
    rw [zm_error_30]
    · rfl
    · exact h30
  · constructor
    · intro z
      have e : zm_numeral Y x = zm_error Y := by
        unfold zm_numeral
        rw [h21, if_neg hs, if_neg (fun z => z h26), if_neg c2, if_neg (fun z => z hd), if_neg h95, if_neg h46, if_neg he, if_pos z]
      rw [e]
      exact zm_error_30 h30
    · intro z
      unfold zm_numeral
      rw [h21, if_neg hs, if_neg (fun z => z h26), if_neg c2, if_neg (fun z => z hd), if_neg h95, if_neg h46, if_neg he, if_neg z]
end
/-! The class's loop over digits. -/
def zk_cont (b : Int32) (m : Nat) (X : zc_N) : Int32 := if zk_here X = 95 then zk_digits b m (zc_step X) else if zk_digitOf (zk_here X) b = -1 then 1 else zk_digits b m X
def zc_cont (b : Int32) (m : Nat) (X : zc_N) : zc_N := if zk_here X = 95 then zc_digits b m (zc_step X) else if zk_digitOf (zk_here X) b = -1 then X else zc_digits b m X
theorem zk_digits_c {b : Int32} {m : Nat} {X : zc_N} : zk_digits b (m + 1) X = if zk_digitOf (zk_here X) b = -1 then 0 else zk_cont b m (zc_keepB X) := rfl
theorem zc_digits_c {b : Int32} {m : Nat} {X : zc_N} : zc_digits b (m + 1) X = if zk_digitOf (zk_here X) b = -1 then zc_refuse X else zc_cont b m (zc_keepB X) := rfl
section
variable {T : Nat → Int32} {n : Nat} {N0 : zc_N} {a u b : Nat}
/-- what a run of digits gives -/
def zq_dr (T : Nat → Int32) (n : Nat) (N0 : zc_N) (a u b : Nat) (P0 : Nat → zm_M → Prop) (kv : Int32) (Z : zc_N) (Y : zm_M) (c : Nat) : Prop := (kv = 0 ∧ zq_er n Z Y) ∨ (kv = 1 ∧ ∃ (c' : Nat) (Y' : zm_M), c ≤ c' ∧ zq_nI T n N0 Z a c' u ∧ P0 c' Y' ∧ zk_digitOf (zq_x T n c') (nI b) = -1 ∧ ¬ zq_x T n c' = 95 ∧ ∀ F : zm_M, zt Y' F → zt Y F)
theorem zq_dr_back {P0 : Nat → zm_M → Prop} {kv : Int32} {Z : zc_N} {Y Y' : zm_M} {c c' : Nat} (h : zq_dr T n N0 a u b P0 kv Z Y' c') (hc : c ≤ c') (hF : ∀ F : zm_M, zt Y' F → zt Y F) : zq_dr T n N0 a u b P0 kv Z Y c := by
  rcases h with ⟨h1, h2⟩ | ⟨h1, d, V, h2, h3, h4, h5, h6, h7⟩
  · exact Or.inl ⟨h1, zq_er_back h2 hF⟩
  · exact Or.inr ⟨h1, d, V, by omega, h3, h4, h5, h6, fun F f => hF F (h7 F f)⟩
theorem zq_digs (hT : zq_T T n) (hb : b = 8 ∨ b = 16 ∨ b = 2 ∨ b = 10) (hu : u ≤ 20000) (P0 P1 : Nat → zm_M → Prop) (hd : ∀ (c : Nat) (Y : zm_M), c < n → P1 c Y → ¬ zk_digitOf (zq_x T n c) (nI b) = -1 → ∃ Y' : zm_M, P0 (c + 1) Y' ∧ ∀ F : zm_M, zt Y' F → zt Y F) (hbad : ∀ (c : Nat) (Y : zm_M), c ≤ n → P1 c Y → zk_digitOf (zq_x T n c) (nI b) = -1 → ∃ F : zm_M, F.1 30 = nI c ∧ zt Y F) (hun : ∀ (c : Nat) (Y : zm_M), c < n → P0 c Y → zq_x T n c = 95 → ∃ Y' : zm_M, P1 (c + 1) Y' ∧ ∀ F : zm_M, zt Y' F → zt Y F) (hnx : ∀ (c : Nat) (Y : zm_M), P0 c Y → ¬ zk_digitOf (zq_x T n c) (nI b) = -1 → P1 c Y) : (∀ (m c : Nat) (X : zc_N) (Y : zm_M), n - c < m → zq_nI T n N0 X a c u → P0 c Y → zq_dr T n N0 a u b P0 (zk_cont (nI b) m X) (zc_cont (nI b) m X) Y c) ∧ (∀ (m c : Nat) (X : zc_N) (Y : zm_M), n - c < m → zq_nI T n N0 X a c u → P1 c Y → zq_dr T n N0 a u b P0 (zk_digits (nI b) m X) (zc_digits (nI b) m X) Y c) := by
  have hn := hT.1
  have h95 : zk_digitOf 95 (nI b) = -1 := by rcases hb with rfl | rfl | rfl | rfl <;> decide
  -- a head from what follows it
  have head : ∀ m : Nat, (∀ (c : Nat) (X : zc_N) (Y : zm_M), n - c < m → zq_nI T n N0 X a c u → P0 c Y → zq_dr T n N0 a u b P0 (zk_cont (nI b) m X) (zc_cont (nI b) m X) Y c) → ∀ (c : Nat) (X : zc_N) (Y : zm_M), n - c < m + 1 → zq_nI T n N0 X a c u → P1 c Y → zq_dr T n N0 a u b P0 (zk_digits (nI b) (m + 1) X) (zc_digits (nI b) (m + 1) X) Y c := by
    intro m ih c X Y hm hX hP
    have hcn : c ≤ n := hX.2.2.2.2.2.2.2.2
    have hh : zk_here X = zq_x T n c := zk_here_at hT hX.2.2.1 (by omega)
    rw [zk_digits_c, zc_digits_c, hh]
    by_cases z : zk_digitOf (zq_x T n c) (nI b) = -1
    · rw [if_pos z, if_pos z]
      exact Or.inl ⟨rfl, zq_er_mk hX.1 hX.2.2.1 hcn (hbad c Y hcn hP z)⟩
    · rw [if_neg z, if_neg z]
      have hlt : c < n := by
        rcases zq_dg_x (c := c) hT hb with ⟨y, -⟩ | ⟨y, -⟩
        · exact absurd y z
        · exact y
      obtain ⟨Y', y1, y2⟩ := hd c Y hlt hP z
      exact zq_dr_back (ih (c + 1) (zc_keepB X) Y' (by omega) (zq_nI_keep hT hX hlt (fun y => z (by rw [y]; exact h95)) hu) y1) (by omega) y2
  have both : ∀ m : Nat, ∀ (c : Nat) (X : zc_N) (Y : zm_M), n - c < m → zq_nI T n N0 X a c u → P0 c Y → zq_dr T n N0 a u b P0 (zk_cont (nI b) m X) (zc_cont (nI b) m X) Y c := by
    intro m
    induction m with
    | zero => intro c X Y hm; exact absurd hm (by omega)
    | succ m ih =>
      intro c X Y hm hX hP
      have hcn : c ≤ n := hX.2.2.2.2.2.2.2.2
      have hh : zk_here X = zq_x T n c := zk_here_at hT hX.2.2.1 (by omega)
      unfold zk_cont zc_cont
      rw [hh]
      by_cases z : zq_x T n c = 95
      · rw [if_pos z, if_pos z]
        have hlt : c < n := zq_lt (by rw [z]; decide)
        obtain ⟨Y', y1, y2⟩ := hun c Y hlt hP z
        exact zq_dr_back (head m ih (c + 1) (zc_step X) Y' (by omega) (zq_nI_skip hT hX z) y1) (by omega) y2
      · rw [if_neg z, if_neg z]
        by_cases y : zk_digitOf (zq_x T n c) (nI b) = -1
        · rw [if_pos y, if_pos y]
          exact Or.inr ⟨rfl, c, Y, Nat.le_refl _, hX, hP, y, z, fun _ hF => hF⟩
        · rw [if_neg y, if_neg y]
          exact head m ih c X Y hm hX (hnx c Y hP y)
  refine ⟨fun m => both m, fun m c X Y hm hX hP => ?_⟩
  cases m with
  | zero => exact absurd hm (by omega)
  | succ m =>
    have hcn : c ≤ n := hX.2.2.2.2.2.2.2.2
    rcases Nat.lt_or_ge (n - c) m with z | z
    · exact head m (both m) c X Y hm hX hP
    · refine head m (fun c' X' Y' hm' => both m c' X' Y' hm') c X Y hm hX hP
end
