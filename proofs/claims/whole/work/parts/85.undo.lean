theorem C52 {d : Nat} {m : Mm} {Q : Option Value → Mm → Prop} {f w : Nat} (hd : 2 ≤ d) (hW : Wd m.2.2) (hf : f < 12) (hw : w ≤ 12) (ez2 : mI m 24 2 = nI f) (ez3 : mI m 24 3 = nI w) (h0 : w = 0 → Q (some (.int (nI 0))) m) (h1 : 0 < w → Q (some (.int (nI 1))) (cpM (uI m 24 3 (nI w - nI 1)) (27 + 4 * ((f + (w - 1)) % 12)) 20)) : Cc d 0 0 52 [.ref 24, .ref 20] m Q := by
  refine ent (n := 70) z52 (by decide) rfl (by decide) (Nat.le_of_ble_eq_true rfl) (fun sc => ?_)
  refine And.intro (Wdo_24 hW) ?_
  rw [ez3]
  refine And.intro (fun cz2 => ?_) (fun cz2 => ?_)
  · -- 2 taken: ¬ nI w = 0
    have kz2 : w ≠ 0 := kne (a := w) (b := 0) rfl rfl (by omega) (by omega) cz2
    refine And.intro rfl ?_
    refine And.intro (Wdo_24 hW) ?_
    rw [ez3]
    refine And.intro (Wdo_24 hW) ?_
    refine And.intro (Wdo_24 hW) (Exists.intro _ (And.intro (Wdr_24_0 hW) ?_))
    refine And.intro (Wdo_24 hW) ?_
    rw [show mI (uI m 24 3 (nI w - nI 1)) 24 2 = nI f from by rw [uI_eq, upd_o (by decide)]; exact ez2]
    refine And.intro (Wdo_24 hW) ?_
    rw [show mI (uI m 24 3 (nI w - nI 1)) 24 3 = nI (w - 1) from by rw [uI_eq, upd_e, pk_sub (by omega)]]
    refine And.intro (by decide) ?_
    rw [nI_add, pk_rem (by omega) (by decide) (by decide)]
    refine And.intro (Wdi_25 hW (vi rfl (by omega))) (Exists.intro _ (And.intro (show va_rf (mR m 25 (nI ((f + (w - 1)) % 12)).toNatClampNeg) = .ref (27 + 4 * ((f + (w - 1)) % 12)) by rw [nI_clamp (show ((f + (w - 1)) % 12) < 2 ^ 31 by omega)]; exact Wdr_acts hW _ (Nat.mod_lt _ (by decide))) ?_))
    refine And.intro ⟨by omega, Nat.le_of_ble_eq_true rfl, Nat.le_refl _, Nat.le_refl _⟩ (And.intro (SWo_0 (Wd_S hW)) ?_)
    refine C99 (b := (27 + 4 * ((f + (w - 1)) % 12))) (g := 20) (m := (uI m 24 3 (nI w - nI 1))) (by omega) (Wd_A hW _ (Nat.mod_lt _ (by decide))) (Wd_S hW) (by omega) ?_
    refine And.intro ⟨rfl, Or.inr rfl, Nat.le_refl _, Nat.le_refl _⟩ ?_
    exact h1 (by omega)
  · -- 2 not: nI w = 0
    have kz2 : w = 0 := keq (a := w) (b := 0) rfl rfl (by omega) (by omega) cz2
    refine And.intro ⟨rfl, Or.inl rfl, Nat.le_refl _, Nat.le_refl _⟩ ?_
    exact h0 (by omega)
theorem C53 {d : Nat} {m : Mm} {Q : Option Value → Mm → Prop} {y : Nat} (hd : 2 ≤ d) (hW : Wd m.2.2) (hy : y ≤ 3) (ez4 : mI m 24 4 = nI y) (h0 : y = 3 → Q (some (.int (-nI 1))) m) (h1 : y < 3 → Q (some (.int (nI y))) (uI (cpM m 20 (75 + 4 * y)) 24 4 (nI y + nI 1))) : Cc d 0 0 53 [.ref 24, .ref 20] m Q := by
  refine ent (n := 68) z53 (by decide) rfl (by decide) (Nat.le_of_ble_eq_true rfl) (fun sc => ?_)
  refine And.intro (Wdo_24 hW) ?_
  rw [ez4]
  refine And.intro (fun cz3 => ?_) (fun cz3 => ?_)
  · -- 3 taken: nI y < nI 3
    have kz3 : y < 3 := klt (a := y) (b := 3) rfl rfl (by omega) (by omega) cz3
    refine And.intro (Wdo_24 hW) (Exists.intro _ (And.intro (Wdr_24_1 hW) ?_))
    refine And.intro (Wdo_24 hW) ?_
    rw [ez4]
    refine And.intro (Wdi_26 hW (vi rfl (by omega))) (Exists.intro _ (And.intro (show va_rf (mR m 26 (nI y).toNatClampNeg) = .ref (75 + 4 * y) by rw [nI_clamp (show y < 2 ^ 31 by omega)]; exact Wdr_marks hW _ (by omega)) ?_))
    refine And.intro ⟨by omega, Nat.le_of_ble_eq_true rfl, Nat.le_refl _, Nat.le_refl _⟩ (And.intro (SWo_0 (Wd_M hW _ (by omega))) ?_)
    refine C99 (b := 20) (g := (75 + 4 * y)) (m := m) (by omega) (Wd_S hW) (Wd_M hW _ (by omega)) (by omega) ?_
    refine And.intro rfl ?_
    refine And.intro (Wdo_24 hW) ?_
    rw [show mI (cpM m 20 (75 + 4 * y)) 24 4 = nI y from by rw [cpM_P.1 24 (by omega)]; exact ez4]
    refine And.intro (Wdo_24 hW) ?_
    refine And.intro (Wdo_24 hW) ?_
    skip
    refine And.intro ⟨rfl, trivial, Nat.le_refl _, Nat.le_refl _⟩ ?_
    rw [show mI (uI (cpM m 20 (75 + 4 * y)) 24 4 (nI y + nI 1)) 24 4 - nI 1 = nI y from by rw [uI_eq, upd_e, nI_add, pk_sub (by omega), Nat.add_sub_cancel]]
    exact h1 (by omega)
  · -- 3 not: ¬ nI y < nI 3
    have kz3 : 3 ≤ y := knlt (a := y) (b := 3) rfl rfl (by omega) (by omega) cz3
    refine And.intro ⟨rfl, trivial, Nat.le_refl _, Nat.le_refl _⟩ ?_
    exact h0 (by omega)
theorem C54 {d : Nat} {m : Mm} {Q : Option Value → Mm → Prop} {y : Nat} {x : Int32} (hd : 2 ≤ d) (hW : Wd m.2.2) (hy : y ≤ 3) (ez4 : mI m 24 4 = nI y) (h0 : ¬ iR x y → Q (some (.int (nI 0))) m) (h1 : ∀ j, j < y → x = nI j → Q (some (.int (nI 1))) (uI (cpM m (75 + 4 * j) 20) 24 3 (nI 0))) : Cc d 0 0 54 [.ref 24, .int x, .ref 20] m Q := by
  refine ent (n := 58) z54 (by decide) rfl (by decide) (Nat.le_of_ble_eq_true rfl) (fun sc => ?_)
  refine And.intro (fun cz1 => ?_) (fun cz1 => ?_)
  · -- 1 taken: x < 0
    refine And.intro ⟨rfl, Or.inl rfl, Nat.le_refl _, Nat.le_refl _⟩ ?_
    exact h0 (fun z => ((irq (by omega)).mp z).1 cz1)
  · -- 1 not: ¬ x < 0
    refine And.intro (Wdo_24 hW) ?_
    rw [ez4]
    refine And.intro (fun cz5 => ?_) (fun cz5 => ?_)
    · -- 5 taken: x < nI y
      obtain ⟨j, hj, rfl⟩ := (irq (n := y) (by omega)).mpr ⟨cz1, Int32.not_le.mpr cz5⟩
      refine And.intro (Wdo_24 hW) (Exists.intro _ (And.intro (Wdr_24_1 hW) ?_))
      refine And.intro (Wdi_26 hW (vi rfl (by omega))) (Exists.intro _ (And.intro (show va_rf (mR m 26 (nI j).toNatClampNeg) = .ref (75 + 4 * j) by rw [nI_clamp (show j < 2 ^ 31 by omega)]; exact Wdr_marks hW _ (by omega)) ?_))
      refine And.intro ⟨by omega, Nat.le_of_ble_eq_true rfl, Nat.le_refl _, Nat.le_refl _⟩ (And.intro (SWo_0 (Wd_S hW)) ?_)
      refine C99 (b := (75 + 4 * j)) (g := 20) (m := m) (by omega) (Wd_M hW _ (by omega)) (Wd_S hW) (by omega) ?_
      refine And.intro (Wdo_24 hW) ?_
      refine And.intro ⟨rfl, Or.inr rfl, Nat.le_refl _, Nat.le_refl _⟩ ?_
      exact h1 j hj rfl
    · -- 5 not: ¬ x < nI y
      refine And.intro ⟨rfl, Or.inl rfl, Nat.le_refl _, Nat.le_refl _⟩ ?_
      exact h0 (fun z => ((irq (by omega)).mp z).2 (Int32.not_lt.mp cz5))
