def akP (I J : Nat → Nat → Int32) (f w : Nat) : Prop := (∀ r, r ≠ 24 → (r < 27 + 4 * ((f + w) % 12) ∨ 31 + 4 * ((f + w) % 12) ≤ r) → J r = I r) ∧ (∀ x, x ≠ 2 → x ≠ 3 → J 24 x = I 24 x) ∧ J 24 2 = nI (if w = 12 then (f + 1) % 12 else f) ∧ J 24 3 = nI (if w = 12 then 12 else w + 1) ∧ J (27 + 4 * ((f + w) % 12)) 0 = I 20 0 ∧ J (27 + 4 * ((f + w) % 12)) 1 = I 20 1 ∧ (∀ x, x < 6 → J (27 + 4 * ((f + w) % 12) + 1) x = I (20 + 1) x) ∧ (∀ x, x < 36 → J (27 + 4 * ((f + w) % 12) + 2) x = I (20 + 2) x) ∧ ∀ x, x < 4 → J (27 + 4 * ((f + w) % 12) + 3) x = I (20 + 3) x
theorem ak_1 {m M : Mm} {f w s : Nat} (hs : (f + w) % 12 = s) (hI : ∀ r, r ≠ 24 → mI M r = mI m r) (hx : ∀ x, x ≠ 2 → x ≠ 3 → mI M 24 x = mI m 24 x) (h2 : mI M 24 2 = nI (if w = 12 then (f + 1) % 12 else f)) : akP (mI m) (mI (uI (cpM M 20 (27 + 4 * s)) 24 3 (nI (if w = 12 then 12 else w + 1)))) f w := by
  obtain ⟨p1, p2, p3, p4, p5, p6⟩ := cpM_P (m := M) (b := 20) (g := 27 + 4 * s)
  unfold akP
  rw [hs]
  refine ⟨fun r h1 h3 => ?_, fun x h1 h3 => ?_, ?_, ?_, ?_, ?_, fun x h => ?_, fun x h => ?_, fun x h => ?_⟩
  · rw [uI_ne h1, p1 r (by omega), hI r h1]
  · rw [uI_eq, upd_o h3, p1 24 (by omega), hx x h1 h3]
  · rw [uI_eq, upd_o (by decide), p1 24 (by omega), h2]
  · rw [uI_eq, upd_e]
  · rw [uI_ne (by omega), p2, hI 20 (by decide)]
  · rw [uI_ne (by omega), p3, hI 20 (by decide)]
  · rw [uI_ne (by omega), p4 x h, hI (20 + 1) (by decide)]
  · rw [uI_ne (by omega), p5 x h, hI (20 + 2) (by decide)]
  · rw [uI_ne (by omega), p6 x h, hI (20 + 3) (by decide)]
theorem C51 {d : Nat} {m : Mm} {Q : Option Value → Mm → Prop} {f w : Nat} (hd : 2 ≤ d) (hW : Wd m.2.2) (hf : f < 12) (hw : w ≤ 12) (h2 : mI m 24 2 = nI f) (h3 : mI m 24 3 = nI w) (hQ : ∀ m9, akP (mI m) (mI m9) f w → m9.2.2 = m.2.2 → Q none m9) : Cc d 0 0 51 [.ref 24, .ref 20] m Q := by
  refine ent (n := 94) z51 (by decide) rfl (by decide) (Nat.le_of_ble_eq_true rfl) (fun sc => ?_)
  refine And.intro (Wdo_24 hW) ?_
  rw [h3]
  refine And.intro (fun cz3 => ?_) (fun cz3 => ?_)
  · -- 3 taken: ¬ nI w = nI 12
    have kz3 : w ≠ 12 := kne (a := w) (b := 12) rfl rfl (by omega) (by omega) cz3
    refine And.intro (Wdo_24 hW) (Exists.intro _ (And.intro (Wdr_24_0 hW) ?_))
    refine And.intro (Wdo_24 hW) ?_
    rw [h2]
    skip
    refine And.intro (Wdo_24 hW) ?_
    rw [h3]
    skip
    refine And.intro (by decide) ?_
    rw [nI_add, pk_rem (by omega) (by decide) (by decide)]
    refine And.intro (Wdi_25 hW (vi rfl (by omega))) (Exists.intro _ (And.intro (show va_rf (mR m 25 (nI ((f + w) % 12)).toNatClampNeg) = .ref (27 + 4 * ((f + w) % 12)) by rw [nI_clamp (show ((f + w) % 12) < 2 ^ 31 by omega)]; exact Wdr_acts hW _ (Nat.mod_lt _ (by decide))) ?_))
    refine And.intro ⟨by omega, Nat.le_of_ble_eq_true rfl, Nat.le_refl _, Nat.le_refl _⟩ (And.intro (SWo_0 (Wd_A hW _ (Nat.mod_lt _ (by decide)))) ?_)
    refine C99 (b := 20) (g := 27 + 4 * ((f + w) % 12)) (m := m) (by omega) (Wd_S hW) (Wd_A hW _ (Nat.mod_lt _ (by decide))) (by omega) ?_
    refine And.intro rfl ?_
    refine And.intro (Wdo_24 hW) ?_
    rw [show mI (cpM m 20 (27 + 4 * ((f + w) % 12))) 24 3 = nI w from by rw [cpM_P.1 24 (by omega)]; exact h3]
    refine And.intro (Wdo_24 hW) ?_
    refine And.intro ⟨rfl, rfl, Nat.le_refl _, Nat.le_refl _⟩ ?_
    refine hQ _ (show akP (mI m) (mI (uI (cpM m 20 (27 + 4 * ((f + w) % 12))) 24 3 (nI w + nI 1))) f w from ?_) (by rw [uI_22, cpM_22])
    have z := ak_1 (m := m) (M := m) (f := f) (w := w) rfl (fun _ _ => rfl) (fun _ _ _ => rfl) (h2.trans (by rw [if_neg kz3]))
    rw [if_neg kz3] at z
    rw [nI_add]
    exact z
  · -- 3 not: nI w = nI 12
    have kz3 : w = 12 := keq (a := w) (b := 12) rfl rfl (by omega) (by omega) cz3
    refine And.intro (Wdo_24 hW) ?_
    rw [h2]
    refine And.intro (by decide) ?_
    rw [nI_add, pk_rem (by omega) (by decide) (by decide)]
    refine And.intro (Wdo_24 hW) ?_
    refine And.intro rfl ?_
    refine And.intro (Wdo_24 hW) ?_
    rw [show mI (uI m 24 2 (nI (((f + 1) % 12)))) 24 3 = nI w from by rw [uI_eq]; exact h3]
    refine And.intro (Wdo_24 hW) ?_
    refine And.intro (Wdo_24 hW) (Exists.intro _ (And.intro (Wdr_24_0 hW) ?_))
    refine And.intro (Wdo_24 hW) ?_
    rw [show mI (uI (uI m 24 2 (nI (((f + 1) % 12)))) 24 3 (nI w - nI 1)) 24 2 = nI ((f + 1) % 12) from by rw [uI_eq, upd_o (by decide), uI_eq, upd_e]]
    refine And.intro (Wdo_24 hW) ?_
    rw [show mI (uI (uI m 24 2 (nI (((f + 1) % 12)))) 24 3 (nI w - nI 1)) 24 3 = nI 11 from by rw [uI_eq, upd_e, kz3]; decide]
    refine And.intro (by decide) ?_
    rw [nI_add, pk_rem (by omega) (by decide) (by decide), show ((f + 1) % 12 + 11) % 12 = (f + w) % 12 by omega]
    refine And.intro (Wdi_25 hW (vi rfl (by omega))) (Exists.intro _ (And.intro (show va_rf (mR m 25 (nI ((f + w) % 12)).toNatClampNeg) = .ref (27 + 4 * ((f + w) % 12)) by rw [nI_clamp (show ((f + w) % 12) < 2 ^ 31 by omega)]; exact Wdr_acts hW _ (Nat.mod_lt _ (by decide))) ?_))
    refine And.intro ⟨by omega, Nat.le_of_ble_eq_true rfl, Nat.le_refl _, Nat.le_refl _⟩ (And.intro (SWo_0 (Wd_A hW _ (Nat.mod_lt _ (by decide)))) ?_)
    refine C99 (b := 20) (g := 27 + 4 * ((f + w) % 12)) (m := (uI (uI m 24 2 (nI (((f + 1) % 12)))) 24 3 (nI w - nI 1))) (by omega) (Wd_S hW) (Wd_A hW _ (Nat.mod_lt _ (by decide))) (by omega) ?_
    refine And.intro rfl ?_
    refine And.intro (Wdo_24 hW) ?_
    rw [show mI (cpM (uI (uI m 24 2 (nI (((f + 1) % 12)))) 24 3 (nI w - nI 1)) 20 (27 + 4 * ((f + w) % 12))) 24 3 = nI 11 from by rw [cpM_P.1 24 (by omega)]; rw [uI_eq, upd_e, kz3]; decide]
    refine And.intro (Wdo_24 hW) ?_
    refine And.intro ⟨rfl, rfl, Nat.le_refl _, Nat.le_refl _⟩ ?_
    refine hQ _ (show akP (mI m) (mI (uI (cpM (uI (uI m 24 2 (nI (((f + 1) % 12)))) 24 3 (nI w - nI 1)) 20 (27 + 4 * ((f + w) % 12))) 24 3 (nI 11 + nI 1))) f w from ?_) (by rw [uI_22, cpM_22, uI_22, uI_22])
    have z := ak_1 (m := m) (M := (uI (uI m 24 2 (nI ((f + 1) % 12))) 24 3 (nI w - nI 1))) (f := f) (w := w) rfl (fun r h => by rw [uI_ne h, uI_ne h]) (fun x hx1 hx2 => by rw [uI_eq, upd_o hx2, uI_eq, upd_o hx1]) (by rw [uI_eq, upd_o (by decide), uI_eq, upd_e, if_pos kz3])
    rw [if_pos kz3] at z
    exact z
