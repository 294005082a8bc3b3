/-! The text: its bytes, its lines; where both stand in it. -/
def zq_b (v : Nat) : Int32 := if v < 128 then nI v else nI v - 256
theorem zq_byte {x : Int32} (h : fits .byte (.int x) = true) : ∃ v : Nat, v < 256 ∧ x = zq_b v := by
  have h2 : (-128 : Int32) ≤ x ∧ x ≤ 127 := by
    have := h
    unfold fits at this
    simp only [Bool.and_eq_true, decide_eq_true_eq] at this
    exact this
  have a1 := Int32.le_iff_toInt_le.mp h2.1
  have a2 := Int32.le_iff_toInt_le.mp h2.2
  have e1 : (-128 : Int32).toInt = -128 := by decide
  have e2 : (127 : Int32).toInt = 127 := by decide
  rw [e1] at a1
  rw [e2] at a2
  have hx : x = Int32.ofInt x.toInt := (Int32.ofInt_toInt x).symm
  have key : ∀ w : Nat, w < 256 → ∃ v : Nat, v < 256 ∧ Int32.ofInt ((w : Int) - 128) = zq_b v := by
    intro w hw
    have : ∀ w : Nat, w < 256 → Int32.ofInt ((w : Int) - 128) = zq_b (if w < 128 then w + 128 else w - 128) := by decide +kernel
    exact ⟨_, by split <;> omega, this w hw⟩
  obtain ⟨v, v1, v2⟩ := key (x.toInt + 128).toNat (by omega)
  refine ⟨v, v1, ?_⟩
  rw [← v2, hx]
  congr 1
  rw [← hx]
  omega
theorem zq_b255 : ∀ v : Nat, v < 256 → zq_b v &&& 255 = nI v ∧ (zq_b v = 10 ↔ nI v = 10) ∧ vp_nar .byte (nI v).toInt8.toInt32 = zq_b v := by decide +kernel
def zq_x (T : Nat → Int32) (n i : Nat) : Int32 := if i < n then T i &&& 255 else -1
def zq_ln (T : Nat → Int32) (n : Nat) : Nat → Int32
  | 0 => 1
  | i + 1 => if zq_x T n i = 10 then zq_ln T n i + 1 else zq_ln T n i
def zq_ls (T : Nat → Int32) (n : Nat) : Nat → Int32
  | 0 => 0
  | i + 1 => if zq_x T n i = 10 then nI (i + 1) else zq_ls T n i
/-- the class at byte a of T, n bytes -/
def zq_ct (T : Nat → Int32) (n : Nat) (N : zc_N) (a : Nat) : Prop := N.1 61 = nI n ∧ N.2.1 60 = T ∧ N.1 62 = nI a ∧ N.1 63 = zq_ln T n a ∧ N.1 64 = zq_ls T n a
/-- the reference there -/
def zq_mt (T : Nat → Int32) (n : Nat) (M : zm_M) (a : Nat) : Prop := M.1 2 = nI n ∧ (∀ i : Nat, i < n → M.2.1 1 i = T i) ∧ M.1 27 = nI a ∧ M.1 28 = zq_ln T n a ∧ M.1 29 = zq_ls T n a
def zq_T (T : Nat → Int32) (n : Nat) : Prop := n ≤ 10240 ∧ ∀ i : Nat, fits .byte (.int (T i)) = true
theorem zq_xv {T : Nat → Int32} {n i : Nat} (hT : zq_T T n) (h : i < n) : ∃ v : Nat, v < 256 ∧ T i = zq_b v ∧ zq_x T n i = nI v := by
  obtain ⟨v, v1, v2⟩ := zq_byte (hT.2 i)
  exact ⟨v, v1, v2, by unfold zq_x; rw [if_pos h, v2]; exact (zq_b255 v v1).1⟩
theorem zq_xe {T : Nat → Int32} {n i : Nat} (h : n ≤ i) : zq_x T n i = -1 := by
  unfold zq_x
  rw [if_neg (by omega)]
theorem zq_lt {T : Nat → Int32} {n i : Nat} (h : ¬ zq_x T n i = -1) : i < n := by
  rcases Nat.lt_or_ge i n with q | q
  · exact q
  · exact absurd (zq_xe q) h
theorem zk_here_at {T : Nat → Int32} {n a : Nat} {N : zc_N} (hT : zq_T T n) (h : zq_ct T n N a) (ha : a ≤ 60000) : zk_here N = zq_x T n a := by
  obtain ⟨h1, h2, h3, -, -⟩ := h
  have hn := hT.1
  unfold zk_here zq_x
  rw [h3, h1, h2]
  by_cases c : a < n
  · rw [if_pos ⟨nI_pos (by omega), nI_lt c (by omega)⟩, if_pos c, nI_clamp (by omega)]
  · rw [if_neg (fun z => c (z_lit (by omega) (by omega) z.2)), if_neg c]
theorem zk_next_le {T : Nat → Int32} {n a : Nat} {N : zc_N} (hT : zq_T T n) (h : zq_ct T n N a) (ha : a ≤ n) : zk_next N = zq_x T n (a + 1) := by
  obtain ⟨h1, h2, h3, -, -⟩ := h
  have hn := hT.1
  unfold zk_next zq_x
  rw [h3, h1, h2, nI_1]
  by_cases c : a + 1 < n
  · rw [if_pos ⟨nI_pos (by omega), nI_lt c (by omega)⟩, if_pos c, nI_clamp (by omega)]
  · rw [if_neg (fun z => c (z_lit (by omega) (by omega) z.2)), if_neg c]
theorem zk_next_at {T : Nat → Int32} {n a : Nat} {N : zc_N} (hT : zq_T T n) (h : zq_ct T n N a) (ha : a < n) : zk_next N = zq_x T n (a + 1) := zk_next_le hT h (Nat.le_of_lt ha)
theorem zc_step_at {T : Nat → Int32} {n a : Nat} {N : zc_N} (hT : zq_T T n) (h : zq_ct T n N a) (ha : a < n) : zq_ct T n (zc_step N) (a + 1) := by
  obtain ⟨h1, h2, h3, h4, h5⟩ := h
  have hn := hT.1
  obtain ⟨v, v1, v2, v3⟩ := zq_xv hT ha
  have hv := (zq_b255 v v1).2.1
  unfold zc_step
  by_cases c : zq_x T n a = 10
  · have c2 : N.2.1 60 (N.1 62).toNatClampNeg = 10 := by
      rw [h2, h3, nI_clamp (by omega), v2]
      exact hv.mpr (by rw [← v3]; exact c)
    rw [if_pos ⟨by rw [h3]; exact nI_pos (by omega), by rw [h3, h1]; exact nI_lt ha (by omega), c2⟩]
    refine ⟨h1, h2, ?_, ?_, ?_⟩
    · show N.1 62 + 1 = _
      rw [h3, nI_1]
    · show N.1 63 + 1 = if _ then _ else _
      rw [if_pos c, h4]
    · show N.1 62 + 1 = if _ then _ else _
      rw [if_pos c, h3, nI_1]
  · have c2 : ¬ N.2.1 60 (N.1 62).toNatClampNeg = 10 := by
      rw [h2, h3, nI_clamp (by omega), v2]
      exact fun z => c (by rw [v3]; exact hv.mp z)
    rw [if_neg (fun z => c2 z.2.2)]
    refine ⟨h1, h2, ?_, ?_, ?_⟩
    · show N.1 62 + 1 = _
      rw [h3, nI_1]
    · show N.1 63 = if _ then _ else _
      rw [if_neg c, h4]
    · show N.1 64 = if _ then _ else _
      rw [if_neg c, h5]
theorem zr_byteAt_at {T : Nat → Int32} {n a i : Nat} {M : zm_M} (hT : zq_T T n) (h : zq_mt T n M a) (hi : i < n) : zr_byteAt M (nI i) = zq_x T n i := by
  have hn := hT.1
  unfold zr_byteAt zq_x
  rw [nI_clamp (by omega), h.2.1 i hi, if_pos hi]
theorem zr_here_at {T : Nat → Int32} {n a : Nat} {M : zm_M} (hT : zq_T T n) (h : zq_mt T n M a) (ha : a ≤ 60000) : zr_here M = zq_x T n a := by
  have hn := hT.1
  by_cases c : a < n
  · unfold zr_here
    rw [h.2.2.1, h.1, if_pos (nI_lt c (by omega))]
    exact zr_byteAt_at hT h c
  · unfold zr_here
    rw [h.2.2.1, h.1, if_neg (fun z => c (z_lit (by omega) (by omega) z)), zq_xe (by omega)]
theorem zm_fin_at {T : Nat → Int32} {n a : Nat} {M : zm_M} (h : zq_mt T n M a) : zq_mt T n (zm_fin M (zq_x T n a)) (a + 1) := by
  obtain ⟨h1, h2, h3, h4, h5⟩ := h
  unfold zm_fin zm_lf
  by_cases c : zq_x T n a = 10
  · rw [if_pos c]
    refine ⟨h1, h2, ?_, ?_, ?_⟩
    · show M.1 27 + 1 = _
      rw [h3, nI_1]
    · show M.1 28 + 1 = if _ then _ else _
      rw [if_pos c, h4]
    · show M.1 27 + 1 = if _ then _ else _
      rw [if_pos c, h3, nI_1]
  · rw [if_neg c]
    refine ⟨h1, h2, ?_, ?_, ?_⟩
    · show M.1 27 + 1 = _
      rw [h3, nI_1]
    · show M.1 28 = if _ then _ else _
      rw [if_neg c, h4]
    · show M.1 29 = if _ then _ else _
      rw [if_neg c, h5]
/-- what zm_fin leaves -/
theorem zm_fin_1 {M : zm_M} {x : Int32} {k : Nat} (h1 : k ≠ 27) (h2 : k ≠ 28) (h3 : k ≠ 29) : (zm_fin M x).1 k = M.1 k := by
  unfold zm_fin zm_lf
  split
  · show upd (upd (upd M.1 28 _) 29 _) 27 _ k = _
    rw [zq_upd, if_neg h1, zq_upd, if_neg h3, zq_upd, if_neg h2]
  · show upd M.1 27 _ k = _
    rw [zq_upd, if_neg h1]
theorem zm_fin_2 {M : zm_M} {x : Int32} : (zm_fin M x).2 = M.2 := by
  unfold zm_fin zm_lf
  split <;> rfl
/-- the reference gets from X to F -/
def zt (X F : zm_M) : Prop := ∃ m : Nat, zm_run m X F
def zg (M F : zm_M) : Prop := zt (zm_fin (zm_gap M (zr_here M)) (zr_here M)) F
theorem zt_step {T : Nat → Int32} {n a : Nat} {X F : zm_M} (hT : zq_T T n) (h : zq_mt T n X a) (ha : a ≤ n) (h30 : X.1 30 < 0) (hok : zm_ok X) (hF : zt (zm_fin (zm_step X (zq_x T n a)) (zq_x T n a)) F) : zt X F := by
  have hn := hT.1
  obtain ⟨m, hm⟩ := hF
  refine ⟨m + 1, ⟨?_, h30⟩, fun _ => ?_, hok, ?_⟩
  · rw [h.1, h.2.2.1]
    exact fun z => absurd (z_lit (by omega) (by omega) z) (by omega)
  · rw [h.2.2.1]
    exact vp_in_nI (by omega) (by omega)
  · unfold zm_turn
    rw [zr_here_at hT h (by omega)]
    exact hm
theorem zt_stop {X : zm_M} (h : ¬ X.1 30 < 0) : zt X X := ⟨0, fun z => h z.2, rfl⟩
theorem zt_end {X : zm_M} (h : X.1 2 < X.1 27) : zt X X := ⟨0, fun z => z.1 h, rfl⟩
theorem zt_0 {T : Nat → Int32} {n a : Nat} {M F : zm_M} (hT : zq_T T n) (h : zq_mt T n M a) (ha : a ≤ n) (h30 : M.1 30 < 0) (h21 : M.1 21 = 0) (hok : zm_ok M) (hF : zg M F) : zt M F := by
  have hn := hT.1
  unfold zg at hF
  rw [zr_here_at hT h (by omega)] at hF
  refine zt_step hT h ha h30 hok ?_
  unfold zm_step
  rw [if_pos h21]
  exact hF
