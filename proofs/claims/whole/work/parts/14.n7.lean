theorem zm_set20 (g : za_G) (h : Nat) (ad : Nat → Nat) (X : zm_M) (i v : Int32) : (zm_ws g h ad X).set 16 (ad 20, .inl (g.2.2.1, 4096, .inl (upd (X.2.1 20) i.toNatClampNeg v))) = zm_ws g h ad (zm_a X 20 i v) := rfl
theorem zm_keeps_f (M : zm_M) (f : Nat → Int32) {i : Nat} (hi : i ≠ 15) : ∀ j, (zm_keeps M f j).1 i = M.1 i := by
  intro j
  induction j with
  | zero => rfl
  | succ j ih =>
    show upd (zm_keeps M f j).1 15 _ i = M.1 i
    rw [zq_upd, if_neg hi]
    exact ih
theorem zm_keeps_a (M : zm_M) (f : Nat → Int32) {i : Nat} (hi : i ≠ 16) : ∀ j, (zm_keeps M f j).2.1 i = M.2.1 i := by
  intro j
  induction j with
  | zero => rfl
  | succ j ih =>
    show (if i = 16 then _ else (zm_keeps M f j).2.1 i) = M.2.1 i
    rw [if_neg hi]
    exact ih
theorem zm_keeps_15 (M : zm_M) (f : Nat → Int32) {u : Nat} (hu : M.1 15 = nI u) : ∀ j, (zm_keeps M f j).1 15 = nI (u + j) := by
  intro j
  induction j with
  | zero => exact hu
  | succ j ih =>
    show (zm_keeps M f j).1 15 + 1 = nI (u + (j + 1))
    rw [ih, nI_1]
    rfl
theorem zr_byteAt_b (M : zm_M) (x : Int32) : ∃ v : Nat, v < 256 ∧ zr_byteAt M x = nI v := by
  unfold zr_byteAt
  exact pk_andE _ 8 (by decide)
theorem zr_hash_in {M : zm_M} {a b : Nat} (h27 : M.1 27 = nI a) (h23 : M.1 23 = nI b) (hba : b < a) (ha : a ≤ 60000) : vp_in (zr_hash M) 4096 := by
  unfold zr_hash
  dsimp only
  obtain ⟨v1, g1, e1⟩ := zr_byteAt_b M (M.1 23)
  obtain ⟨v2, g2, e2⟩ := zr_byteAt_b M (M.1 27 - 1)
  obtain ⟨v3, g3, e3⟩ := zr_byteAt_b M ((M.1 23 + M.1 27) / 2)
  rw [e1, e2, e3, h27, h23]
  have e : nI v1 * 37 + nI v2 * 11 + nI v3 * 101 + nI a - nI b = nI (v1 * 37 + v2 * 11 + v3 * 101 + a - b) := by
    rw [show (37 : Int32) = nI 37 from rfl, show (11 : Int32) = nI 11 from rfl, show (101 : Int32) = nI 101 from rfl, pk_mul, pk_mul, pk_mul, nI_add, nI_add, nI_add, pk_sub (by omega)]
  rw [e, show (4096 : Int32) = nI 4096 from rfl, pk_rem (by omega) (by decide) (by decide)]
  exact vp_in_nI (Nat.mod_lt _ (by decide)) (by decide)
theorem zr_chain_end {M : zm_M} {k : Nat} {n : Int32} (h : n < 0 ∨ ¬ zr_same M (M.2.1 18 n.toNatClampNeg) = 0) : zr_chain M k n = n := by
  cases k with
  | zero => rfl
  | succ k =>
    unfold zr_chain
    rw [if_neg]
    rintro ⟨h1, h2⟩
    rcases h with h | h
    · exact h1 h
    · exact h h2
theorem zm_pa1 {g : za_G} {h : Nat} {ad : Nat → Nat} {X : zm_M} {i : Int32} {v : Int32} {H : Heap} (q : va_P g.1 vwCl ((zm_ws g h ad X).set 1 (ad 1, .inl (g.2.1, 65536, .inl (upd (X.2.1 1) i.toNatClampNeg (vp_nar .byte v))))) H) : va_P g.1 vwCl (zm_ws g h ad (zm_a X 1 i (vp_nar .byte v))) H := q
theorem zm_da1 {g : za_G} {h : Nat} {ad : Nat → Nat} {X : zm_M} {i : Int32} {v : Int32} {A : Nat → Prop} (q : va_D A ((zm_ws g h ad X).set 1 (ad 1, .inl (g.2.1, 65536, .inl (upd (X.2.1 1) i.toNatClampNeg (vp_nar .byte v)))))) : va_D A (zm_ws g h ad (zm_a X 1 i (vp_nar .byte v))) := q
theorem zm_pa4 {g : za_G} {h : Nat} {ad : Nat → Nat} {X : zm_M} {i : Int32} {v : Int32} {H : Heap} (q : va_P g.1 vwCl ((zm_ws g h ad X).set 2 (ad 4, .inl (g.2.2.1, 16384, .inl (upd (X.2.1 4) i.toNatClampNeg v)))) H) : va_P g.1 vwCl (zm_ws g h ad (zm_a X 4 i v)) H := q
theorem zm_da4 {g : za_G} {h : Nat} {ad : Nat → Nat} {X : zm_M} {i : Int32} {v : Int32} {A : Nat → Prop} (q : va_D A ((zm_ws g h ad X).set 2 (ad 4, .inl (g.2.2.1, 16384, .inl (upd (X.2.1 4) i.toNatClampNeg v))))) : va_D A (zm_ws g h ad (zm_a X 4 i v)) := q
theorem zm_pa5 {g : za_G} {h : Nat} {ad : Nat → Nat} {X : zm_M} {i : Int32} {v : Int32} {H : Heap} (q : va_P g.1 vwCl ((zm_ws g h ad X).set 3 (ad 5, .inl (g.2.2.1, 16384, .inl (upd (X.2.1 5) i.toNatClampNeg v)))) H) : va_P g.1 vwCl (zm_ws g h ad (zm_a X 5 i v)) H := q
theorem zm_da5 {g : za_G} {h : Nat} {ad : Nat → Nat} {X : zm_M} {i : Int32} {v : Int32} {A : Nat → Prop} (q : va_D A ((zm_ws g h ad X).set 3 (ad 5, .inl (g.2.2.1, 16384, .inl (upd (X.2.1 5) i.toNatClampNeg v))))) : va_D A (zm_ws g h ad (zm_a X 5 i v)) := q
theorem zm_pa6 {g : za_G} {h : Nat} {ad : Nat → Nat} {X : zm_M} {i : Int32} {v : Int32} {H : Heap} (q : va_P g.1 vwCl ((zm_ws g h ad X).set 4 (ad 6, .inl (g.2.2.1, 16384, .inl (upd (X.2.1 6) i.toNatClampNeg v)))) H) : va_P g.1 vwCl (zm_ws g h ad (zm_a X 6 i v)) H := q
theorem zm_da6 {g : za_G} {h : Nat} {ad : Nat → Nat} {X : zm_M} {i : Int32} {v : Int32} {A : Nat → Prop} (q : va_D A ((zm_ws g h ad X).set 4 (ad 6, .inl (g.2.2.1, 16384, .inl (upd (X.2.1 6) i.toNatClampNeg v))))) : va_D A (zm_ws g h ad (zm_a X 6 i v)) := q
theorem zm_pa7 {g : za_G} {h : Nat} {ad : Nat → Nat} {X : zm_M} {i : Int32} {v : Int32} {H : Heap} (q : va_P g.1 vwCl ((zm_ws g h ad X).set 5 (ad 7, .inl (g.2.2.1, 16384, .inl (upd (X.2.1 7) i.toNatClampNeg v)))) H) : va_P g.1 vwCl (zm_ws g h ad (zm_a X 7 i v)) H := q
theorem zm_da7 {g : za_G} {h : Nat} {ad : Nat → Nat} {X : zm_M} {i : Int32} {v : Int32} {A : Nat → Prop} (q : va_D A ((zm_ws g h ad X).set 5 (ad 7, .inl (g.2.2.1, 16384, .inl (upd (X.2.1 7) i.toNatClampNeg v))))) : va_D A (zm_ws g h ad (zm_a X 7 i v)) := q
theorem zm_pa8 {g : za_G} {h : Nat} {ad : Nat → Nat} {X : zm_M} {i : Int32} {v : Int32} {H : Heap} (q : va_P g.1 vwCl ((zm_ws g h ad X).set 6 (ad 8, .inl (g.2.2.1, 16384, .inl (upd (X.2.1 8) i.toNatClampNeg v)))) H) : va_P g.1 vwCl (zm_ws g h ad (zm_a X 8 i v)) H := q
theorem zm_da8 {g : za_G} {h : Nat} {ad : Nat → Nat} {X : zm_M} {i : Int32} {v : Int32} {A : Nat → Prop} (q : va_D A ((zm_ws g h ad X).set 6 (ad 8, .inl (g.2.2.1, 16384, .inl (upd (X.2.1 8) i.toNatClampNeg v))))) : va_D A (zm_ws g h ad (zm_a X 8 i v)) := q
theorem zm_pa9 {g : za_G} {h : Nat} {ad : Nat → Nat} {X : zm_M} {i : Int32} {v : Int32} {H : Heap} (q : va_P g.1 vwCl ((zm_ws g h ad X).set 7 (ad 9, .inl (g.2.2.2.2, 16384, .inl (upd (X.2.1 9) i.toNatClampNeg (vp_nar .boolean v))))) H) : va_P g.1 vwCl (zm_ws g h ad (zm_a X 9 i (vp_nar .boolean v))) H := q
theorem zm_da9 {g : za_G} {h : Nat} {ad : Nat → Nat} {X : zm_M} {i : Int32} {v : Int32} {A : Nat → Prop} (q : va_D A ((zm_ws g h ad X).set 7 (ad 9, .inl (g.2.2.2.2, 16384, .inl (upd (X.2.1 9) i.toNatClampNeg (vp_nar .boolean v)))))) : va_D A (zm_ws g h ad (zm_a X 9 i (vp_nar .boolean v))) := q
theorem zm_pa10 {g : za_G} {h : Nat} {ad : Nat → Nat} {X : zm_M} {i : Int32} {v : Int32} {H : Heap} (q : va_P g.1 vwCl ((zm_ws g h ad X).set 8 (ad 10, .inl (g.2.2.1, 16384, .inl (upd (X.2.1 10) i.toNatClampNeg v)))) H) : va_P g.1 vwCl (zm_ws g h ad (zm_a X 10 i v)) H := q
theorem zm_da10 {g : za_G} {h : Nat} {ad : Nat → Nat} {X : zm_M} {i : Int32} {v : Int32} {A : Nat → Prop} (q : va_D A ((zm_ws g h ad X).set 8 (ad 10, .inl (g.2.2.1, 16384, .inl (upd (X.2.1 10) i.toNatClampNeg v))))) : va_D A (zm_ws g h ad (zm_a X 10 i v)) := q
theorem zm_pa11 {g : za_G} {h : Nat} {ad : Nat → Nat} {X : zm_M} {i : Int32} {v : Int32} {H : Heap} (q : va_P g.1 vwCl ((zm_ws g h ad X).set 9 (ad 11, .inl (g.2.2.1, 16384, .inl (upd (X.2.1 11) i.toNatClampNeg v)))) H) : va_P g.1 vwCl (zm_ws g h ad (zm_a X 11 i v)) H := q
theorem zm_da11 {g : za_G} {h : Nat} {ad : Nat → Nat} {X : zm_M} {i : Int32} {v : Int32} {A : Nat → Prop} (q : va_D A ((zm_ws g h ad X).set 9 (ad 11, .inl (g.2.2.1, 16384, .inl (upd (X.2.1 11) i.toNatClampNeg v))))) : va_D A (zm_ws g h ad (zm_a X 11 i v)) := q
theorem zm_pa12 {g : za_G} {h : Nat} {ad : Nat → Nat} {X : zm_M} {i : Int32} {v : Int32} {H : Heap} (q : va_P g.1 vwCl ((zm_ws g h ad X).set 10 (ad 12, .inl (g.2.2.1, 16384, .inl (upd (X.2.1 12) i.toNatClampNeg v)))) H) : va_P g.1 vwCl (zm_ws g h ad (zm_a X 12 i v)) H := q
theorem zm_da12 {g : za_G} {h : Nat} {ad : Nat → Nat} {X : zm_M} {i : Int32} {v : Int32} {A : Nat → Prop} (q : va_D A ((zm_ws g h ad X).set 10 (ad 12, .inl (g.2.2.1, 16384, .inl (upd (X.2.1 12) i.toNatClampNeg v))))) : va_D A (zm_ws g h ad (zm_a X 12 i v)) := q
theorem zm_pa13 {g : za_G} {h : Nat} {ad : Nat → Nat} {X : zm_M} {i : Int32} {v : Int32} {H : Heap} (q : va_P g.1 vwCl ((zm_ws g h ad X).set 11 (ad 13, .inl (g.2.2.1, 16384, .inl (upd (X.2.1 13) i.toNatClampNeg v)))) H) : va_P g.1 vwCl (zm_ws g h ad (zm_a X 13 i v)) H := q
theorem zm_da13 {g : za_G} {h : Nat} {ad : Nat → Nat} {X : zm_M} {i : Int32} {v : Int32} {A : Nat → Prop} (q : va_D A ((zm_ws g h ad X).set 11 (ad 13, .inl (g.2.2.1, 16384, .inl (upd (X.2.1 13) i.toNatClampNeg v))))) : va_D A (zm_ws g h ad (zm_a X 13 i v)) := q
theorem zm_pa14 {g : za_G} {h : Nat} {ad : Nat → Nat} {X : zm_M} {i : Int32} {v : Int64} {H : Heap} (q : va_P g.1 vwCl ((zm_ws g h ad X).set 12 (ad 14, .inl (g.2.2.2.1, 16384, .inr (.inl (vp_updL X.2.2 i.toNatClampNeg v))))) H) : va_P g.1 vwCl (zm_ws g h ad (zm_v X i v)) H := q
theorem zm_da14 {g : za_G} {h : Nat} {ad : Nat → Nat} {X : zm_M} {i : Int32} {v : Int64} {A : Nat → Prop} (q : va_D A ((zm_ws g h ad X).set 12 (ad 14, .inl (g.2.2.2.1, 16384, .inr (.inl (vp_updL X.2.2 i.toNatClampNeg v)))))) : va_D A (zm_ws g h ad (zm_v X i v)) := q
theorem zm_pa16 {g : za_G} {h : Nat} {ad : Nat → Nat} {X : zm_M} {i : Int32} {v : Int32} {H : Heap} (q : va_P g.1 vwCl ((zm_ws g h ad X).set 13 (ad 16, .inl (g.2.1, 65536, .inl (upd (X.2.1 16) i.toNatClampNeg (vp_nar .byte v))))) H) : va_P g.1 vwCl (zm_ws g h ad (zm_a X 16 i (vp_nar .byte v))) H := q
theorem zm_da16 {g : za_G} {h : Nat} {ad : Nat → Nat} {X : zm_M} {i : Int32} {v : Int32} {A : Nat → Prop} (q : va_D A ((zm_ws g h ad X).set 13 (ad 16, .inl (g.2.1, 65536, .inl (upd (X.2.1 16) i.toNatClampNeg (vp_nar .byte v)))))) : va_D A (zm_ws g h ad (zm_a X 16 i (vp_nar .byte v))) := q
theorem zm_pa18 {g : za_G} {h : Nat} {ad : Nat → Nat} {X : zm_M} {i : Int32} {v : Int32} {H : Heap} (q : va_P g.1 vwCl ((zm_ws g h ad X).set 14 (ad 18, .inl (g.2.2.1, 16384, .inl (upd (X.2.1 18) i.toNatClampNeg v)))) H) : va_P g.1 vwCl (zm_ws g h ad (zm_a X 18 i v)) H := q
theorem zm_da18 {g : za_G} {h : Nat} {ad : Nat → Nat} {X : zm_M} {i : Int32} {v : Int32} {A : Nat → Prop} (q : va_D A ((zm_ws g h ad X).set 14 (ad 18, .inl (g.2.2.1, 16384, .inl (upd (X.2.1 18) i.toNatClampNeg v))))) : va_D A (zm_ws g h ad (zm_a X 18 i v)) := q
theorem zm_pa19 {g : za_G} {h : Nat} {ad : Nat → Nat} {X : zm_M} {i : Int32} {v : Int32} {H : Heap} (q : va_P g.1 vwCl ((zm_ws g h ad X).set 15 (ad 19, .inl (g.2.2.1, 16384, .inl (upd (X.2.1 19) i.toNatClampNeg v)))) H) : va_P g.1 vwCl (zm_ws g h ad (zm_a X 19 i v)) H := q
theorem zm_da19 {g : za_G} {h : Nat} {ad : Nat → Nat} {X : zm_M} {i : Int32} {v : Int32} {A : Nat → Prop} (q : va_D A ((zm_ws g h ad X).set 15 (ad 19, .inl (g.2.2.1, 16384, .inl (upd (X.2.1 19) i.toNatClampNeg v))))) : va_D A (zm_ws g h ad (zm_a X 19 i v)) := q
theorem zm_pa20 {g : za_G} {h : Nat} {ad : Nat → Nat} {X : zm_M} {i : Int32} {v : Int32} {H : Heap} (q : va_P g.1 vwCl ((zm_ws g h ad X).set 16 (ad 20, .inl (g.2.2.1, 4096, .inl (upd (X.2.1 20) i.toNatClampNeg v)))) H) : va_P g.1 vwCl (zm_ws g h ad (zm_a X 20 i v)) H := q
theorem zm_da20 {g : za_G} {h : Nat} {ad : Nat → Nat} {X : zm_M} {i : Int32} {v : Int32} {A : Nat → Prop} (q : va_D A ((zm_ws g h ad X).set 16 (ad 20, .inl (g.2.2.1, 4096, .inl (upd (X.2.1 20) i.toNatClampNeg v))))) : va_D A (zm_ws g h ad (zm_a X 20 i v)) := q
theorem zm_pa43 {g : za_G} {h : Nat} {ad : Nat → Nat} {X : zm_M} {i : Int32} {v : Int32} {H : Heap} (q : va_P g.1 vwCl ((zm_ws g h ad X).set 17 (ad 43, .inl (g.2.2.1, 160, .inl (upd (X.2.1 43) i.toNatClampNeg v)))) H) : va_P g.1 vwCl (zm_ws g h ad (zm_a X 43 i v)) H := q
theorem zm_da43 {g : za_G} {h : Nat} {ad : Nat → Nat} {X : zm_M} {i : Int32} {v : Int32} {A : Nat → Prop} (q : va_D A ((zm_ws g h ad X).set 17 (ad 43, .inl (g.2.2.1, 160, .inl (upd (X.2.1 43) i.toNatClampNeg v))))) : va_D A (zm_ws g h ad (zm_a X 43 i v)) := q
theorem zm_pf0 {g : za_G} {h : Nat} {ad : Nat → Nat} {X : zm_M} {v : Int32} {H : Heap} (q : va_P g.1 vwCl ((zm_ws g h ad X).set 0 (h, .inr (9, (zm_fs ad X.1).set 0 (.int v)))) H) : va_P g.1 vwCl (zm_ws g h ad (zm_s X 0 v)) H := q
theorem zm_df0 {g : za_G} {h : Nat} {ad : Nat → Nat} {X : zm_M} {v : Int32} {A : Nat → Prop} (q : va_D A ((zm_ws g h ad X).set 0 (h, .inr (9, (zm_fs ad X.1).set 0 (.int v))))) : va_D A (zm_ws g h ad (zm_s X 0 v)) := q
theorem zm_pf2 {g : za_G} {h : Nat} {ad : Nat → Nat} {X : zm_M} {v : Int32} {H : Heap} (q : va_P g.1 vwCl ((zm_ws g h ad X).set 0 (h, .inr (9, (zm_fs ad X.1).set 2 (.int v)))) H) : va_P g.1 vwCl (zm_ws g h ad (zm_s X 2 v)) H := q
theorem zm_df2 {g : za_G} {h : Nat} {ad : Nat → Nat} {X : zm_M} {v : Int32} {A : Nat → Prop} (q : va_D A ((zm_ws g h ad X).set 0 (h, .inr (9, (zm_fs ad X.1).set 2 (.int v))))) : va_D A (zm_ws g h ad (zm_s X 2 v)) := q
theorem zm_pf3 {g : za_G} {h : Nat} {ad : Nat → Nat} {X : zm_M} {v : Int32} {H : Heap} (q : va_P g.1 vwCl ((zm_ws g h ad X).set 0 (h, .inr (9, (zm_fs ad X.1).set 3 (.int v)))) H) : va_P g.1 vwCl (zm_ws g h ad (zm_s X 3 v)) H := q
theorem zm_df3 {g : za_G} {h : Nat} {ad : Nat → Nat} {X : zm_M} {v : Int32} {A : Nat → Prop} (q : va_D A ((zm_ws g h ad X).set 0 (h, .inr (9, (zm_fs ad X.1).set 3 (.int v))))) : va_D A (zm_ws g h ad (zm_s X 3 v)) := q
theorem zm_pf15 {g : za_G} {h : Nat} {ad : Nat → Nat} {X : zm_M} {v : Int32} {H : Heap} (q : va_P g.1 vwCl ((zm_ws g h ad X).set 0 (h, .inr (9, (zm_fs ad X.1).set 15 (.int v)))) H) : va_P g.1 vwCl (zm_ws g h ad (zm_s X 15 v)) H := q
theorem zm_df15 {g : za_G} {h : Nat} {ad : Nat → Nat} {X : zm_M} {v : Int32} {A : Nat → Prop} (q : va_D A ((zm_ws g h ad X).set 0 (h, .inr (9, (zm_fs ad X.1).set 15 (.int v))))) : va_D A (zm_ws g h ad (zm_s X 15 v)) := q
theorem zm_pf17 {g : za_G} {h : Nat} {ad : Nat → Nat} {X : zm_M} {v : Int32} {H : Heap} (q : va_P g.1 vwCl ((zm_ws g h ad X).set 0 (h, .inr (9, (zm_fs ad X.1).set 17 (.int v)))) H) : va_P g.1 vwCl (zm_ws g h ad (zm_s X 17 v)) H := q
theorem zm_df17 {g : za_G} {h : Nat} {ad : Nat → Nat} {X : zm_M} {v : Int32} {A : Nat → Prop} (q : va_D A ((zm_ws g h ad X).set 0 (h, .inr (9, (zm_fs ad X.1).set 17 (.int v))))) : va_D A (zm_ws g h ad (zm_s X 17 v)) := q
theorem zm_pf21 {g : za_G} {h : Nat} {ad : Nat → Nat} {X : zm_M} {v : Int32} {H : Heap} (q : va_P g.1 vwCl ((zm_ws g h ad X).set 0 (h, .inr (9, (zm_fs ad X.1).set 21 (.int v)))) H) : va_P g.1 vwCl (zm_ws g h ad (zm_s X 21 v)) H := q
theorem zm_df21 {g : za_G} {h : Nat} {ad : Nat → Nat} {X : zm_M} {v : Int32} {A : Nat → Prop} (q : va_D A ((zm_ws g h ad X).set 0 (h, .inr (9, (zm_fs ad X.1).set 21 (.int v))))) : va_D A (zm_ws g h ad (zm_s X 21 v)) := q
theorem zm_pf22 {g : za_G} {h : Nat} {ad : Nat → Nat} {X : zm_M} {v : Int32} {H : Heap} (q : va_P g.1 vwCl ((zm_ws g h ad X).set 0 (h, .inr (9, (zm_fs ad X.1).set 22 (.int v)))) H) : va_P g.1 vwCl (zm_ws g h ad (zm_s X 22 v)) H := q
theorem zm_df22 {g : za_G} {h : Nat} {ad : Nat → Nat} {X : zm_M} {v : Int32} {A : Nat → Prop} (q : va_D A ((zm_ws g h ad X).set 0 (h, .inr (9, (zm_fs ad X.1).set 22 (.int v))))) : va_D A (zm_ws g h ad (zm_s X 22 v)) := q
theorem zm_pf23 {g : za_G} {h : Nat} {ad : Nat → Nat} {X : zm_M} {v : Int32} {H : Heap} (q : va_P g.1 vwCl ((zm_ws g h ad X).set 0 (h, .inr (9, (zm_fs ad X.1).set 23 (.int v)))) H) : va_P g.1 vwCl (zm_ws g h ad (zm_s X 23 v)) H := q
theorem zm_df23 {g : za_G} {h : Nat} {ad : Nat → Nat} {X : zm_M} {v : Int32} {A : Nat → Prop} (q : va_D A ((zm_ws g h ad X).set 0 (h, .inr (9, (zm_fs ad X.1).set 23 (.int v))))) : va_D A (zm_ws g h ad (zm_s X 23 v)) := q
theorem zm_pf24 {g : za_G} {h : Nat} {ad : Nat → Nat} {X : zm_M} {v : Int32} {H : Heap} (q : va_P g.1 vwCl ((zm_ws g h ad X).set 0 (h, .inr (9, (zm_fs ad X.1).set 24 (.int v)))) H) : va_P g.1 vwCl (zm_ws g h ad (zm_s X 24 v)) H := q
theorem zm_df24 {g : za_G} {h : Nat} {ad : Nat → Nat} {X : zm_M} {v : Int32} {A : Nat → Prop} (q : va_D A ((zm_ws g h ad X).set 0 (h, .inr (9, (zm_fs ad X.1).set 24 (.int v))))) : va_D A (zm_ws g h ad (zm_s X 24 v)) := q
theorem zm_pf25 {g : za_G} {h : Nat} {ad : Nat → Nat} {X : zm_M} {v : Int32} {H : Heap} (q : va_P g.1 vwCl ((zm_ws g h ad X).set 0 (h, .inr (9, (zm_fs ad X.1).set 25 (.int v)))) H) : va_P g.1 vwCl (zm_ws g h ad (zm_s X 25 v)) H := q
theorem zm_df25 {g : za_G} {h : Nat} {ad : Nat → Nat} {X : zm_M} {v : Int32} {A : Nat → Prop} (q : va_D A ((zm_ws g h ad X).set 0 (h, .inr (9, (zm_fs ad X.1).set 25 (.int v))))) : va_D A (zm_ws g h ad (zm_s X 25 v)) := q
theorem zm_pf26 {g : za_G} {h : Nat} {ad : Nat → Nat} {X : zm_M} {v : Int32} {H : Heap} (q : va_P g.1 vwCl ((zm_ws g h ad X).set 0 (h, .inr (9, (zm_fs ad X.1).set 26 (.int v)))) H) : va_P g.1 vwCl (zm_ws g h ad (zm_s X 26 v)) H := q
theorem zm_df26 {g : za_G} {h : Nat} {ad : Nat → Nat} {X : zm_M} {v : Int32} {A : Nat → Prop} (q : va_D A ((zm_ws g h ad X).set 0 (h, .inr (9, (zm_fs ad X.1).set 26 (.int v))))) : va_D A (zm_ws g h ad (zm_s X 26 v)) := q
theorem zm_pf27 {g : za_G} {h : Nat} {ad : Nat → Nat} {X : zm_M} {v : Int32} {H : Heap} (q : va_P g.1 vwCl ((zm_ws g h ad X).set 0 (h, .inr (9, (zm_fs ad X.1).set 27 (.int v)))) H) : va_P g.1 vwCl (zm_ws g h ad (zm_s X 27 v)) H := q
theorem zm_df27 {g : za_G} {h : Nat} {ad : Nat → Nat} {X : zm_M} {v : Int32} {A : Nat → Prop} (q : va_D A ((zm_ws g h ad X).set 0 (h, .inr (9, (zm_fs ad X.1).set 27 (.int v))))) : va_D A (zm_ws g h ad (zm_s X 27 v)) := q
theorem zm_pf28 {g : za_G} {h : Nat} {ad : Nat → Nat} {X : zm_M} {v : Int32} {H : Heap} (q : va_P g.1 vwCl ((zm_ws g h ad X).set 0 (h, .inr (9, (zm_fs ad X.1).set 28 (.int v)))) H) : va_P g.1 vwCl (zm_ws g h ad (zm_s X 28 v)) H := q
theorem zm_df28 {g : za_G} {h : Nat} {ad : Nat → Nat} {X : zm_M} {v : Int32} {A : Nat → Prop} (q : va_D A ((zm_ws g h ad X).set 0 (h, .inr (9, (zm_fs ad X.1).set 28 (.int v))))) : va_D A (zm_ws g h ad (zm_s X 28 v)) := q
theorem zm_pf29 {g : za_G} {h : Nat} {ad : Nat → Nat} {X : zm_M} {v : Int32} {H : Heap} (q : va_P g.1 vwCl ((zm_ws g h ad X).set 0 (h, .inr (9, (zm_fs ad X.1).set 29 (.int v)))) H) : va_P g.1 vwCl (zm_ws g h ad (zm_s X 29 v)) H := q
theorem zm_df29 {g : za_G} {h : Nat} {ad : Nat → Nat} {X : zm_M} {v : Int32} {A : Nat → Prop} (q : va_D A ((zm_ws g h ad X).set 0 (h, .inr (9, (zm_fs ad X.1).set 29 (.int v))))) : va_D A (zm_ws g h ad (zm_s X 29 v)) := q
theorem zm_pf30 {g : za_G} {h : Nat} {ad : Nat → Nat} {X : zm_M} {v : Int32} {H : Heap} (q : va_P g.1 vwCl ((zm_ws g h ad X).set 0 (h, .inr (9, (zm_fs ad X.1).set 30 (.int v)))) H) : va_P g.1 vwCl (zm_ws g h ad (zm_s X 30 v)) H := q
theorem zm_df30 {g : za_G} {h : Nat} {ad : Nat → Nat} {X : zm_M} {v : Int32} {A : Nat → Prop} (q : va_D A ((zm_ws g h ad X).set 0 (h, .inr (9, (zm_fs ad X.1).set 30 (.int v))))) : va_D A (zm_ws g h ad (zm_s X 30 v)) := q
theorem zm_pf31 {g : za_G} {h : Nat} {ad : Nat → Nat} {X : zm_M} {v : Int32} {H : Heap} (q : va_P g.1 vwCl ((zm_ws g h ad X).set 0 (h, .inr (9, (zm_fs ad X.1).set 31 (.int v)))) H) : va_P g.1 vwCl (zm_ws g h ad (zm_s X 31 v)) H := q
theorem zm_df31 {g : za_G} {h : Nat} {ad : Nat → Nat} {X : zm_M} {v : Int32} {A : Nat → Prop} (q : va_D A ((zm_ws g h ad X).set 0 (h, .inr (9, (zm_fs ad X.1).set 31 (.int v))))) : va_D A (zm_ws g h ad (zm_s X 31 v)) := q
theorem zm_pf32 {g : za_G} {h : Nat} {ad : Nat → Nat} {X : zm_M} {v : Int32} {H : Heap} (q : va_P g.1 vwCl ((zm_ws g h ad X).set 0 (h, .inr (9, (zm_fs ad X.1).set 32 (.int v)))) H) : va_P g.1 vwCl (zm_ws g h ad (zm_s X 32 v)) H := q
theorem zm_df32 {g : za_G} {h : Nat} {ad : Nat → Nat} {X : zm_M} {v : Int32} {A : Nat → Prop} (q : va_D A ((zm_ws g h ad X).set 0 (h, .inr (9, (zm_fs ad X.1).set 32 (.int v))))) : va_D A (zm_ws g h ad (zm_s X 32 v)) := q
theorem zm_pf33 {g : za_G} {h : Nat} {ad : Nat → Nat} {X : zm_M} {v : Int32} {H : Heap} (q : va_P g.1 vwCl ((zm_ws g h ad X).set 0 (h, .inr (9, (zm_fs ad X.1).set 33 (.int v)))) H) : va_P g.1 vwCl (zm_ws g h ad (zm_s X 33 v)) H := q
theorem zm_df33 {g : za_G} {h : Nat} {ad : Nat → Nat} {X : zm_M} {v : Int32} {A : Nat → Prop} (q : va_D A ((zm_ws g h ad X).set 0 (h, .inr (9, (zm_fs ad X.1).set 33 (.int v))))) : va_D A (zm_ws g h ad (zm_s X 33 v)) := q
theorem zm_pf34 {g : za_G} {h : Nat} {ad : Nat → Nat} {X : zm_M} {v : Int32} {H : Heap} (q : va_P g.1 vwCl ((zm_ws g h ad X).set 0 (h, .inr (9, (zm_fs ad X.1).set 34 (.int v)))) H) : va_P g.1 vwCl (zm_ws g h ad (zm_s X 34 v)) H := q
theorem zm_df34 {g : za_G} {h : Nat} {ad : Nat → Nat} {X : zm_M} {v : Int32} {A : Nat → Prop} (q : va_D A ((zm_ws g h ad X).set 0 (h, .inr (9, (zm_fs ad X.1).set 34 (.int v))))) : va_D A (zm_ws g h ad (zm_s X 34 v)) := q
theorem zm_pf35 {g : za_G} {h : Nat} {ad : Nat → Nat} {X : zm_M} {v : Int32} {H : Heap} (q : va_P g.1 vwCl ((zm_ws g h ad X).set 0 (h, .inr (9, (zm_fs ad X.1).set 35 (.int v)))) H) : va_P g.1 vwCl (zm_ws g h ad (zm_s X 35 v)) H := q
theorem zm_df35 {g : za_G} {h : Nat} {ad : Nat → Nat} {X : zm_M} {v : Int32} {A : Nat → Prop} (q : va_D A ((zm_ws g h ad X).set 0 (h, .inr (9, (zm_fs ad X.1).set 35 (.int v))))) : va_D A (zm_ws g h ad (zm_s X 35 v)) := q
theorem zm_pf36 {g : za_G} {h : Nat} {ad : Nat → Nat} {X : zm_M} {v : Int32} {H : Heap} (q : va_P g.1 vwCl ((zm_ws g h ad X).set 0 (h, .inr (9, (zm_fs ad X.1).set 36 (.int v)))) H) : va_P g.1 vwCl (zm_ws g h ad (zm_s X 36 v)) H := q
theorem zm_df36 {g : za_G} {h : Nat} {ad : Nat → Nat} {X : zm_M} {v : Int32} {A : Nat → Prop} (q : va_D A ((zm_ws g h ad X).set 0 (h, .inr (9, (zm_fs ad X.1).set 36 (.int v))))) : va_D A (zm_ws g h ad (zm_s X 36 v)) := q
theorem zm_pf37 {g : za_G} {h : Nat} {ad : Nat → Nat} {X : zm_M} {v : Int32} {H : Heap} (q : va_P g.1 vwCl ((zm_ws g h ad X).set 0 (h, .inr (9, (zm_fs ad X.1).set 37 (.int v)))) H) : va_P g.1 vwCl (zm_ws g h ad (zm_s X 37 v)) H := q
theorem zm_df37 {g : za_G} {h : Nat} {ad : Nat → Nat} {X : zm_M} {v : Int32} {A : Nat → Prop} (q : va_D A ((zm_ws g h ad X).set 0 (h, .inr (9, (zm_fs ad X.1).set 37 (.int v))))) : va_D A (zm_ws g h ad (zm_s X 37 v)) := q
theorem zm_pf38 {g : za_G} {h : Nat} {ad : Nat → Nat} {X : zm_M} {v : Int32} {H : Heap} (q : va_P g.1 vwCl ((zm_ws g h ad X).set 0 (h, .inr (9, (zm_fs ad X.1).set 38 (.int v)))) H) : va_P g.1 vwCl (zm_ws g h ad (zm_s X 38 v)) H := q
theorem zm_df38 {g : za_G} {h : Nat} {ad : Nat → Nat} {X : zm_M} {v : Int32} {A : Nat → Prop} (q : va_D A ((zm_ws g h ad X).set 0 (h, .inr (9, (zm_fs ad X.1).set 38 (.int v))))) : va_D A (zm_ws g h ad (zm_s X 38 v)) := q
theorem zm_pf39 {g : za_G} {h : Nat} {ad : Nat → Nat} {X : zm_M} {v : Int32} {H : Heap} (q : va_P g.1 vwCl ((zm_ws g h ad X).set 0 (h, .inr (9, (zm_fs ad X.1).set 39 (.int v)))) H) : va_P g.1 vwCl (zm_ws g h ad (zm_s X 39 v)) H := q
theorem zm_df39 {g : za_G} {h : Nat} {ad : Nat → Nat} {X : zm_M} {v : Int32} {A : Nat → Prop} (q : va_D A ((zm_ws g h ad X).set 0 (h, .inr (9, (zm_fs ad X.1).set 39 (.int v))))) : va_D A (zm_ws g h ad (zm_s X 39 v)) := q
theorem zm_pf40 {g : za_G} {h : Nat} {ad : Nat → Nat} {X : zm_M} {v : Int32} {H : Heap} (q : va_P g.1 vwCl ((zm_ws g h ad X).set 0 (h, .inr (9, (zm_fs ad X.1).set 40 (.int v)))) H) : va_P g.1 vwCl (zm_ws g h ad (zm_s X 40 v)) H := q
theorem zm_df40 {g : za_G} {h : Nat} {ad : Nat → Nat} {X : zm_M} {v : Int32} {A : Nat → Prop} (q : va_D A ((zm_ws g h ad X).set 0 (h, .inr (9, (zm_fs ad X.1).set 40 (.int v))))) : va_D A (zm_ws g h ad (zm_s X 40 v)) := q
theorem zm_pf41 {g : za_G} {h : Nat} {ad : Nat → Nat} {X : zm_M} {v : Int32} {H : Heap} (q : va_P g.1 vwCl ((zm_ws g h ad X).set 0 (h, .inr (9, (zm_fs ad X.1).set 41 (.int v)))) H) : va_P g.1 vwCl (zm_ws g h ad (zm_s X 41 v)) H := q
theorem zm_df41 {g : za_G} {h : Nat} {ad : Nat → Nat} {X : zm_M} {v : Int32} {A : Nat → Prop} (q : va_D A ((zm_ws g h ad X).set 0 (h, .inr (9, (zm_fs ad X.1).set 41 (.int v))))) : va_D A (zm_ws g h ad (zm_s X 41 v)) := q
theorem zm_pf42 {g : za_G} {h : Nat} {ad : Nat → Nat} {X : zm_M} {v : Int32} {H : Heap} (q : va_P g.1 vwCl ((zm_ws g h ad X).set 0 (h, .inr (9, (zm_fs ad X.1).set 42 (.int v)))) H) : va_P g.1 vwCl (zm_ws g h ad (zm_s X 42 v)) H := q
theorem zm_df42 {g : za_G} {h : Nat} {ad : Nat → Nat} {X : zm_M} {v : Int32} {A : Nat → Prop} (q : va_D A ((zm_ws g h ad X).set 0 (h, .inr (9, (zm_fs ad X.1).set 42 (.int v))))) : va_D A (zm_ws g h ad (zm_s X 42 v)) := q
theorem z_lt_pred {x n : Int32} {k : Nat} (h1 : x < n) (h2 : n < nI (k + 1)) (hk : k < 2 ^ 30) : x < nI k := by
  rw [Int32.lt_iff_toInt_lt] at *
  rw [nI_toInt (by omega)] at h2
  rw [nI_toInt (by omega)]
  omega
theorem z_jn {n m : Int32} {k : Nat} (h0 : ¬ n < 0) (h : n < m) (hm : m = nI k) (hk : k ≤ 16383) : ∃ j : Nat, j < 16384 ∧ n = nI j := by
  obtain ⟨j, hj, rfl⟩ := nI_of h0
  rw [hm] at h
  have := (nI_ltI hj (by omega)).mp h
  exact ⟨j, by omega, rfl⟩
set_option maxHeartbeats 4000000 in
set_option maxRecDepth 100000 in
theorem kL_chain (l : Launch) (g : za_G) (E : za_E) (h : Nat) (ad : Nat → Nat) (M : zm_M) (M3 : zm_M) (a b : Nat) (hh : Int32) (h27 : M3.1 27 = nI a) (h23 : M3.1 23 = nI b) (hba : b < a) (ha : a ≤ 60000) (hti : vp_in (M3.1 3 - 1) 16384) (hN3 : zm_N M3) (hhe : zr_hash M3 = hh) (hfin : zm_name M = zm_numbered M3) {p : Program} {e : Env} {s : State} {m : MethodId} {args : Array Value} {below : List Frame} {meth : Method} {co : Code} {A : Nat → Prop} {Q : State → Prop} (C : za_H p s m args co cX10_name 4 RX10 g E A) (hQ : Q = MQ below (za_qv g (fun u : zm_M => u = zm_name M) (fun u => zm_ws g h ad u) A) args s 0 0 A) (hr : meth.sig.returnType = none) (hlocks : meth.locks = false)  : ∀ (n_ : Nat) (k : Nat) (n : Int32), (zr_chain M3 zr_F (M3.2.1 20 hh.toNatClampNeg) = zr_chain M3 k n) → (n < nI k) → (k ≤ 16385) → (n < M3.1 17) → k < n_ → ∀ (H : Heap) (locs : List Loc) (ls : Array Slot), va_S A s.heap H locs → va_P g.1 vwCl (zm_ws g h ad M3) H → va_D A (zm_ws g h ad M3) → lv_has ls 4 [(0, .ref h), (2, .int hh), (3, .int n)] → W p l e (za_R 5 0 0) s m args below meth co H locs 0 0 Q (F0 m 158 ls []) := by
  obtain ⟨hx, hb, hml, hown, hts, hK, hA, hE⟩ := id C
  intro n_
  induction n_ with
  | zero => intro k n hch hnk hk6 hn17 hm; exact absurd hm (Nat.not_lt_zero _)
  | succ n_ ih =>
    intro k n hch hnk hk6 hn17 hm H locs ls hS hP hD hl
    refine lv_iload_n hx hb dX10_name_158 rfl (lv_at hl 2 rfl) ?_
    refine lv_if_lt (tgt := 185) hx hb dX10_name_159 (by decide) (fun c_159 => ?_) (fun c_159 => ?_)
    · have hce : zr_chain M3 zr_F (M3.2.1 20 hh.toNatClampNeg) = n := by
        rw [hch]
        exact zr_chain_end (Or.inl c_159)
      refine lv_iload_n hx hb dX10_name_185 rfl (lv_at hl 2 rfl) ?_
      refine za_if_ge (tgt := 235) hx hb dX10_name_186 (by decide) (fun c_186 => ?_) (fun c_186 => ?_)
      · exact absurd c_159 c_186
      · have hnn : vp_in (M3.1 17) 16384 := by obtain ⟨n9, g1, g2⟩ := hN3.1; rw [g1]; exact vp_in_nI (by omega) (by omega)
        have hhi : vp_in hh 4096 := by rw [← hhe]; exact zr_hash_in h27 h23 hba ha
        refine lv_aload_n hx hb dX10_name_189 rfl (lv_at hl 0 rfl) ?_
        refine va_get (ci := 9) (v := .int (M3.1 17)) hx hb hts iX10 hown hK hP 0 rfl rfl 17 (by decide) (hts _ w_828) (fun _ h9 => h9) rfl dX10_name_190 ?_
        refine lv_istore_n (lv' := [(3, .int (M3.1 17)), (0, .ref h), (2, .int hh)]) hx hb dX10_name_193 rfl hl (by decide) rfl (fun ls hl => ?_)
        refine lv_aload_n hx hb dX10_name_194 rfl (lv_at hl 1 rfl) ?_
        refine va_get (ci := 9) (v := .ref (ad 18)) hx hb hts iX10 hown hK hP 0 rfl rfl 18 (by decide) (hts _ w_829) (fun _ h9 => h9) rfl dX10_name_195 ?_
        refine lv_iload_n hx hb dX10_name_198 rfl (lv_at hl 0 rfl) ?_
        refine lv_aload_n hx hb dX10_name_199 rfl (lv_at hl 1 rfl) ?_
        refine va_get (ci := 9) (v := .int (M3.1 3)) hx hb hts iX10 hown hK hP 0 rfl rfl 3 (by decide) (hts _ w_814) (fun _ h9 => h9) rfl dX10_name_200 ?_
        refine lv_iconst (v := 1) hx hb dX10_name_203 (by decide) ?_
        refine lv_isub hx hb dX10_name_204 ?_
        refine va_iast (f := M3.2.1 18) hx hb hK hP hD hS 14 1 rfl rfl hnn dX10_name_205 (fun H locs hP hD hS => ?_)
        have hP := zm_pa18 (X := M3) hP
        have hD := zm_da18 (X := M3) hD
        refine lv_aload_n hx hb dX10_name_206 rfl (lv_at hl 1 rfl) ?_
        refine va_get (ci := 9) (v := .ref (ad 19)) hx hb hts iX10 hown hK hP 0 rfl rfl 19 (by decide) (hts _ w_830) (fun _ h9 => h9) rfl dX10_name_207 ?_
        refine lv_iload_n hx hb dX10_name_210 rfl (lv_at hl 0 rfl) ?_
        refine lv_aload_n hx hb dX10_name_211 rfl (lv_at hl 1 rfl) ?_
        refine va_get (ci := 9) (v := .ref (ad 20)) hx hb hts iX10 hown hK hP 0 rfl rfl 20 (by decide) (hts _ w_831) (fun _ h9 => h9) rfl dX10_name_212 ?_
        refine lv_iload_n hx hb dX10_name_215 rfl (lv_at hl 2 rfl) ?_
        refine va_iald (f := M3.2.1 20) hx hb hK hP 16 1 rfl rfl hhi dX10_name_216 ?_
        refine va_iast (f := (zm_a M3 18 (M3.1 17) ((M3.1 3) - 1)).2.1 19) hx hb hK hP hD hS 15 1 rfl rfl hnn dX10_name_217 (fun H locs hP hD hS => ?_)
        have hP := zm_pa19 (X := zm_a M3 18 (M3.1 17) ((M3.1 3) - 1)) hP
        have hD := zm_da19 (X := zm_a M3 18 (M3.1 17) ((M3.1 3) - 1)) hD
        refine lv_aload_n hx hb dX10_name_218 rfl (lv_at hl 1 rfl) ?_
        refine va_get (ci := 9) (v := .ref (ad 20)) hx hb hts iX10 hown hK hP 0 rfl rfl 20 (by decide) (hts _ w_831) (fun _ h9 => h9) rfl dX10_name_219 ?_
        refine lv_iload_n hx hb dX10_name_222 rfl (lv_at hl 2 rfl) ?_
        refine lv_iload_n hx hb dX10_name_223 rfl (lv_at hl 0 rfl) ?_
        refine va_iast (f := (zm_a (zm_a M3 18 (M3.1 17) ((M3.1 3) - 1)) 19 (M3.1 17) (M3.2.1 20 hh.toNatClampNeg)).2.1 20) hx hb hK hP hD hS 16 1 rfl rfl hhi dX10_name_224 (fun H locs hP hD hS => ?_)
        have hP := zm_pa20 (X := zm_a (zm_a M3 18 (M3.1 17) ((M3.1 3) - 1)) 19 (M3.1 17) (M3.2.1 20 hh.toNatClampNeg)) hP
        have hD := zm_da20 (X := zm_a (zm_a M3 18 (M3.1 17) ((M3.1 3) - 1)) 19 (M3.1 17) (M3.2.1 20 hh.toNatClampNeg)) hD
        refine lv_aload_n hx hb dX10_name_225 rfl (lv_at hl 1 rfl) ?_
        refine lv_dup hx hb dX10_name_226 rfl ?_
        refine va_get (ci := 9) (v := .int (M3.1 17)) hx hb hts iX10 hown hK hP 0 rfl rfl 17 (by decide) (hts _ w_828) (fun _ h9 => h9) rfl dX10_name_227 ?_
        refine lv_iconst (v := 1) hx hb dX10_name_230 (by decide) ?_
        refine lv_iadd hx hb dX10_name_231 ?_
        refine va_put (ci := 9) (fs := zm_fs ad (zm_a (zm_a (zm_a M3 18 (M3.1 17) ((M3.1 3) - 1)) 19 (M3.1 17) (M3.2.1 20 hh.toNatClampNeg)) 20 hh (M3.1 17)).1) (v := .int ((M3.1 17) + 1)) hx hb hts iX10 tyX10 tyX10_ok nmX10 hown hK hP hD hS 0 rfl rfl 17 (by decide) (hts _ w_828) (fun _ h9 => h9) rfl (tyX10_ok 17 (by decide)) rfl rfl (Nat.le_of_ble_eq_true rfl) dX10_name_232 (fun H locs hP hD hS => ?_)
        have hP := zm_pf17 (X := zm_a (zm_a (zm_a M3 18 (M3.1 17) ((M3.1 3) - 1)) 19 (M3.1 17) (M3.2.1 20 hh.toNatClampNeg)) 20 hh (M3.1 17)) hP
        have hD := zm_df17 (X := zm_a (zm_a (zm_a M3 18 (M3.1 17) ((M3.1 3) - 1)) 19 (M3.1 17) (M3.2.1 20 hh.toNatClampNeg)) 20 hh (M3.1 17)) hD
        refine lv_aload_n hx hb dX10_name_235 rfl (lv_at hl 1 rfl) ?_
        refine va_get (ci := 9) (v := .ref (ad 10)) hx hb hts iX10 hown hK hP 0 rfl rfl 10 (by decide) (hts _ w_821) (fun _ h9 => h9) rfl dX10_name_236 ?_
        refine lv_aload_n hx hb dX10_name_239 rfl (lv_at hl 1 rfl) ?_
        refine va_get (ci := 9) (v := .int (M3.1 3)) hx hb hts iX10 hown hK hP 0 rfl rfl 3 (by decide) (hts _ w_814) (fun _ h9 => h9) rfl dX10_name_240 ?_
        refine lv_iconst (v := 1) hx hb dX10_name_243 (by decide) ?_
        refine lv_isub hx hb dX10_name_244 ?_
        refine lv_iload_n hx hb dX10_name_245 rfl (lv_at hl 0 rfl) ?_
        refine va_iast (f := (zm_s (zm_a (zm_a (zm_a M3 18 (M3.1 17) ((M3.1 3) - 1)) 19 (M3.1 17) (M3.2.1 20 hh.toNatClampNeg)) 20 hh (M3.1 17)) 17 ((M3.1 17) + 1)).2.1 10) hx hb hK hP hD hS 8 1 rfl rfl hti dX10_name_246 (fun H locs hP hD hS => ?_)
        have hP := zm_pa10 (X := zm_s (zm_a (zm_a (zm_a M3 18 (M3.1 17) ((M3.1 3) - 1)) 19 (M3.1 17) (M3.2.1 20 hh.toNatClampNeg)) 20 hh (M3.1 17)) 17 ((M3.1 17) + 1)) hP
        have hD := zm_da10 (X := zm_s (zm_a (zm_a (zm_a M3 18 (M3.1 17) ((M3.1 3) - 1)) 19 (M3.1 17) (M3.2.1 20 hh.toNatClampNeg)) 20 hh (M3.1 17)) 17 ((M3.1 17) + 1)) hD
        exact zm_rv hQ hx hb hr hlocks hK hP hD hS (by rw [hfin]; unfold zm_numbered; dsimp only; rw [hhe, hce]; simp [c_159, c_186]) dX10_name_247
    · have hjj := z_jn c_159 hn17 hN3.1.choose_spec.1 hN3.1.choose_spec.2
      have hii : vp_in n 16384 := by obtain ⟨j9, g1, g2⟩ := hjj; rw [g2]; exact vp_in_nI g1 (by omega)
      have hnm : ∃ t q w : Nat, M3.2.1 18 n.toNatClampNeg = nI t ∧ t < 16384 ∧ M3.2.1 5 (M3.2.1 18 n.toNatClampNeg).toNatClampNeg = nI q ∧ M3.2.1 8 (M3.2.1 18 n.toNatClampNeg).toNatClampNeg = nI w ∧ q + w ≤ 65535 := by
        obtain ⟨j9, g1, g2⟩ := hjj
        obtain ⟨t, t1, t2, t3, q, w, t4, t5, t6⟩ := (hN3.2.2 j9 (by rw [← g2]; exact hn17) g1).2
        have e9 : n.toNatClampNeg = j9 := by rw [g2]; exact nI_clamp (by omega)
        rw [e9, t1, nI_clamp (by omega)]
        exact ⟨t, q, w, rfl, t2, t4, t5, t6⟩
      obtain ⟨t9, q9, w9, u1, u2, u3, u4, u5⟩ := hnm
      have hsw9 : nI w9 = M3.1 27 - M3.1 23 → b + w9 ≤ 65535 := by
        intro h9
        rw [h27, h23, pk_sub (by omega)] at h9
        have := (nI_eq (by omega) (by omega)).mp h9
        omega
      refine lv_aload_n hx hb dX10_name_162 rfl (lv_at hl 0 rfl) ?_
      refine lv_aload_n hx hb dX10_name_163 rfl (lv_at hl 0 rfl) ?_
      refine va_get (ci := 9) (v := .ref (ad 18)) hx hb hts iX10 hown hK hP 0 rfl rfl 18 (by decide) (hts _ w_829) (fun _ h9 => h9) rfl dX10_name_164 ?_
      refine lv_iload_n hx hb dX10_name_167 rfl (lv_at hl 2 rfl) ?_
      refine va_iald (f := M3.2.1 18) hx hb hK hP 14 1 rfl rfl hii dX10_name_168 ?_
      refine za_ci (wc := zm_ws g h ad M3) (wr := []) C hP hD hS [0, 1, 2, 3, 4, 5, 6, 7, 8, 9, 10, 11, 12, 13, 14, 15, 16, 17] [] rfl rfl (by decide) (by decide) (za_runV C hP hD hS [0, 1, 2, 3, 4, 5, 6, 7, 8, 9, 10, 11, 12, 13, 14, 15, 16, 17] rfl (by decide) rfl (kX10_sameName l g E h ad M3 (M3.2.1 18 n.toNatClampNeg) w9 q9 b (by rw [u1]; exact vp_in_nI u2 (by omega)) u4 u3 u5 h23 hsw9) w_1031 mX10_sameName 0 rfl rfl rfl rfl hl.1 rfl (Nat.le_of_ble_eq_true rfl) dX10_name_169 ⟨by decide, by decide⟩ ⟨by decide, by decide⟩) (fun r1 _ H locs hr1 hP hD hS => ?_)
      have hP : va_P g.1 vwCl (zm_ws g h ad M3) H := hP
      have hD : va_D A (zm_ws g h ad M3) := hD
      refine lv_if_ne (tgt := 185) hx hb dX10_name_172 (by decide) (fun c_172 => ?_) (fun c_172 => ?_)
      · have hce : zr_chain M3 zr_F (M3.2.1 20 hh.toNatClampNeg) = n := by
          rw [hch]
          exact zr_chain_end (Or.inr (by rw [← hr1]; exact c_172))
        refine lv_iload_n hx hb dX10_name_185 rfl (lv_at hl 2 rfl) ?_
        refine za_if_ge (tgt := 235) hx hb dX10_name_186 (by decide) (fun c_186 => ?_) (fun c_186 => ?_)
        · refine lv_aload_n hx hb dX10_name_235 rfl (lv_at hl 0 rfl) ?_
          refine va_get (ci := 9) (v := .ref (ad 10)) hx hb hts iX10 hown hK hP 0 rfl rfl 10 (by decide) (hts _ w_821) (fun _ h9 => h9) rfl dX10_name_236 ?_
          refine lv_aload_n hx hb dX10_name_239 rfl (lv_at hl 0 rfl) ?_
          refine va_get (ci := 9) (v := .int (M3.1 3)) hx hb hts iX10 hown hK hP 0 rfl rfl 3 (by decide) (hts _ w_814) (fun _ h9 => h9) rfl dX10_name_240 ?_
          refine lv_iconst (v := 1) hx hb dX10_name_243 (by decide) ?_
          refine lv_isub hx hb dX10_name_244 ?_
          refine lv_iload_n hx hb dX10_name_245 rfl (lv_at hl 2 rfl) ?_
          refine va_iast (f := M3.2.1 10) hx hb hK hP hD hS 8 1 rfl rfl hti dX10_name_246 (fun H locs hP hD hS => ?_)
          have hP := zm_pa10 (X := M3) hP
          have hD := zm_da10 (X := M3) hD
          subst hr1
          exact zm_rv hQ hx hb hr hlocks hK hP hD hS (by rw [hfin]; unfold zm_numbered; dsimp only; rw [hhe, hce]; simp [c_159, c_172, c_186]) dX10_name_247
        · exact absurd c_186 c_159
      · refine lv_aload_n hx hb dX10_name_175 rfl (lv_at hl 0 rfl) ?_
        refine va_get (ci := 9) (v := .ref (ad 19)) hx hb hts iX10 hown hK hP 0 rfl rfl 19 (by decide) (hts _ w_830) (fun _ h9 => h9) rfl dX10_name_176 ?_
        refine lv_iload_n hx hb dX10_name_179 rfl (lv_at hl 2 rfl) ?_
        refine va_iald (f := M3.2.1 19) hx hb hK hP 15 1 rfl rfl hii dX10_name_180 ?_
        refine lv_istore_n (lv' := [(3, .int (M3.2.1 19 n.toNatClampNeg)), (0, .ref h), (2, .int hh)]) hx hb dX10_name_181 rfl hl (by decide) rfl (fun ls hl => ?_)
        refine lv_goto (tgt := 158) hx hb dX10_name_182 (by decide) ?_
        obtain ⟨jn, hjn, hne⟩ : ∃ jn : Nat, jn < 16384 ∧ n = nI jn := hjj
        have hk8 : ∃ k9, k = k9 + 1 := by
          cases k with
          | zero => exact absurd (show n < 0 from hnk) c_159
          | succ k9 => exact ⟨k9, rfl⟩
        obtain ⟨k9, rfl⟩ := hk8
        have haf := (hN3.2.2 jn (by rw [← hne]; exact hn17) hjn).1
        have e9 : n.toNatClampNeg = jn := by rw [hne]; exact nI_clamp (by omega)
        have hlt9 : M3.2.1 19 n.toNatClampNeg < n := by rw [e9]; rw [hne]; exact haf
        have hk9 : zr_chain M3 zr_F (M3.2.1 20 hh.toNatClampNeg) = zr_chain M3 k9 (M3.2.1 19 n.toNatClampNeg) := by
          rw [hch]
          show (if ¬ n < 0 ∧ zr_same M3 (M3.2.1 18 n.toNatClampNeg) = 0 then _ else _) = _
          rw [if_pos ⟨c_159, by rw [← hr1]; exact c_172⟩]
        have hn1 : M3.2.1 19 n.toNatClampNeg < nI k9 := z_lt_pred hlt9 hnk (by omega)
        have hn2 : M3.2.1 19 n.toNatClampNeg < M3.1 17 := Int32.lt_trans hlt9 hn17
        exact ih k9 (M3.2.1 19 n.toNatClampNeg) (hk9) (hn1) (by omega) (hn2) (by omega) H locs ls hS hP hD (lv_sub hl [1, 2, 0] rfl)
