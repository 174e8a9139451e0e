/-- the state at b is copied to g -/
def cpP (I J : Nat → Nat → Int32) (b g : Nat) : Prop := (∀ r, r < g ∨ g + 4 ≤ r → J r = I r) ∧ J g 0 = I b 0 ∧ J g 1 = I b 1 ∧ (∀ x, x < 6 → J (g + 1) x = I (b + 1) x) ∧ (∀ x, x < 36 → J (g + 2) x = I (b + 2) x) ∧ ∀ x, x < 4 → J (g + 3) x = I (b + 3) x
def cpM (m : Mm) (b g : Nat) : Mm := rI (rI (rI (uI (uI m g 0 (mI m b 0)) g 1 (mI m b 1)) (g + 1) (va_cpy (mI m (b + 1)) (mI m (g + 1)) 0 0 6)) (g + 2) (va_cpy (mI m (b + 2)) (mI m (g + 2)) 0 0 36)) (g + 3) (va_cpy (mI m (b + 3)) (mI m (g + 3)) 0 0 4)
theorem cpM_22 {m : Mm} {b g : Nat} : (cpM m b g).2.2 = m.2.2 := by
  unfold cpM
  rw [rI_22, rI_22, rI_22, uI_22, uI_22]
theorem cpM_P {m : Mm} {b g : Nat} : cpP (mI m) (mI (cpM m b g)) b g := by
  have ez3 : ∀ r, r ≠ g + 3 → mI (cpM m b g) r = mI (rI (rI (uI (uI m g 0 (mI m b 0)) g 1 (mI m b 1)) (g + 1) (va_cpy (mI m (b + 1)) (mI m (g + 1)) 0 0 6)) (g + 2) (va_cpy (mI m (b + 2)) (mI m (g + 2)) 0 0 36)) r := fun r h => rI_ne h
  refine ⟨fun r hr => ?_, ?_, ?_, fun x hx => ?_, fun x hx => ?_, fun x hx => ?_⟩
  · rw [ez3 r (by omega), rI_ne (by omega), rI_ne (by omega), uI_ne (by omega), uI_ne (by omega)]
  · rw [ez3 g (by omega), rI_ne (by omega), rI_ne (by omega), uI_eq, uI_eq]; rfl
  · rw [ez3 g (by omega), rI_ne (by omega), rI_ne (by omega), uI_eq]; rfl
  · rw [ez3 (g + 1) (by omega), rI_ne (by omega), rI_eq]
    show (if 0 ≤ x ∧ x < 0 + 6 then mI m (b + 1) (0 + (x - 0)) else _) = _
    rw [if_pos (by omega), show 0 + (x - 0) = x by omega]
  · rw [ez3 (g + 2) (by omega), rI_eq]
    show (if 0 ≤ x ∧ x < 0 + 36 then mI m (b + 2) (0 + (x - 0)) else _) = _
    rw [if_pos (by omega), show 0 + (x - 0) = x by omega]
  · unfold cpM
    rw [rI_eq]
    show (if 0 ≤ x ∧ x < 0 + 4 then mI m (b + 3) (0 + (x - 0)) else _) = _
    rw [if_pos (by omega), show 0 + (x - 0) = x by omega]
theorem cpM_e {m : Mm} {b g : Nat} {P : Mm → Prop} (hbg : b + 4 ≤ g ∨ g + 4 ≤ b) (h : P (cpM m b g)) : P (rI (rI (rI (uI (uI m g 0 (mI m b 0)) g 1 (mI (uI m g 0 (mI m b 0)) b 1)) (g + 1) (va_cpy (mI (uI (uI m g 0 (mI m b 0)) g 1 (mI (uI m g 0 (mI m b 0)) b 1)) (b + 1)) (mI (uI (uI m g 0 (mI m b 0)) g 1 (mI (uI m g 0 (mI m b 0)) b 1)) (g + 1)) (nI 0).toNatClampNeg (nI 0).toNatClampNeg (nI 6).toNatClampNeg)) (g + 2) (va_cpy (mI (rI (uI (uI m g 0 (mI m b 0)) g 1 (mI (uI m g 0 (mI m b 0)) b 1)) (g + 1) (va_cpy (mI (uI (uI m g 0 (mI m b 0)) g 1 (mI (uI m g 0 (mI m b 0)) b 1)) (b + 1)) (mI (uI (uI m g 0 (mI m b 0)) g 1 (mI (uI m g 0 (mI m b 0)) b 1)) (g + 1)) (nI 0).toNatClampNeg (nI 0).toNatClampNeg (nI 6).toNatClampNeg)) (b + 2)) (mI (rI (uI (uI m g 0 (mI m b 0)) g 1 (mI (uI m g 0 (mI m b 0)) b 1)) (g + 1) (va_cpy (mI (uI (uI m g 0 (mI m b 0)) g 1 (mI (uI m g 0 (mI m b 0)) b 1)) (b + 1)) (mI (uI (uI m g 0 (mI m b 0)) g 1 (mI (uI m g 0 (mI m b 0)) b 1)) (g + 1)) (nI 0).toNatClampNeg (nI 0).toNatClampNeg (nI 6).toNatClampNeg)) (g + 2)) (nI 0).toNatClampNeg (nI 0).toNatClampNeg (nI 36).toNatClampNeg)) (g + 3) (va_cpy (mI (rI (rI (uI (uI m g 0 (mI m b 0)) g 1 (mI (uI m g 0 (mI m b 0)) b 1)) (g + 1) (va_cpy (mI (uI (uI m g 0 (mI m b 0)) g 1 (mI (uI m g 0 (mI m b 0)) b 1)) (b + 1)) (mI (uI (uI m g 0 (mI m b 0)) g 1 (mI (uI m g 0 (mI m b 0)) b 1)) (g + 1)) (nI 0).toNatClampNeg (nI 0).toNatClampNeg (nI 6).toNatClampNeg)) (g + 2) (va_cpy (mI (rI (uI (uI m g 0 (mI m b 0)) g 1 (mI (uI m g 0 (mI m b 0)) b 1)) (g + 1) (va_cpy (mI (uI (uI m g 0 (mI m b 0)) g 1 (mI (uI m g 0 (mI m b 0)) b 1)) (b + 1)) (mI (uI (uI m g 0 (mI m b 0)) g 1 (mI (uI m g 0 (mI m b 0)) b 1)) (g + 1)) (nI 0).toNatClampNeg (nI 0).toNatClampNeg (nI 6).toNatClampNeg)) (b + 2)) (mI (rI (uI (uI m g 0 (mI m b 0)) g 1 (mI (uI m g 0 (mI m b 0)) b 1)) (g + 1) (va_cpy (mI (uI (uI m g 0 (mI m b 0)) g 1 (mI (uI m g 0 (mI m b 0)) b 1)) (b + 1)) (mI (uI (uI m g 0 (mI m b 0)) g 1 (mI (uI m g 0 (mI m b 0)) b 1)) (g + 1)) (nI 0).toNatClampNeg (nI 0).toNatClampNeg (nI 6).toNatClampNeg)) (g + 2)) (nI 0).toNatClampNeg (nI 0).toNatClampNeg (nI 36).toNatClampNeg)) (b + 3)) (mI (rI (rI (uI (uI m g 0 (mI m b 0)) g 1 (mI (uI m g 0 (mI m b 0)) b 1)) (g + 1) (va_cpy (mI (uI (uI m g 0 (mI m b 0)) g 1 (mI (uI m g 0 (mI m b 0)) b 1)) (b + 1)) (mI (uI (uI m g 0 (mI m b 0)) g 1 (mI (uI m g 0 (mI m b 0)) b 1)) (g + 1)) (nI 0).toNatClampNeg (nI 0).toNatClampNeg (nI 6).toNatClampNeg)) (g + 2) (va_cpy (mI (rI (uI (uI m g 0 (mI m b 0)) g 1 (mI (uI m g 0 (mI m b 0)) b 1)) (g + 1) (va_cpy (mI (uI (uI m g 0 (mI m b 0)) g 1 (mI (uI m g 0 (mI m b 0)) b 1)) (b + 1)) (mI (uI (uI m g 0 (mI m b 0)) g 1 (mI (uI m g 0 (mI m b 0)) b 1)) (g + 1)) (nI 0).toNatClampNeg (nI 0).toNatClampNeg (nI 6).toNatClampNeg)) (b + 2)) (mI (rI (uI (uI m g 0 (mI m b 0)) g 1 (mI (uI m g 0 (mI m b 0)) b 1)) (g + 1) (va_cpy (mI (uI (uI m g 0 (mI m b 0)) g 1 (mI (uI m g 0 (mI m b 0)) b 1)) (b + 1)) (mI (uI (uI m g 0 (mI m b 0)) g 1 (mI (uI m g 0 (mI m b 0)) b 1)) (g + 1)) (nI 0).toNatClampNeg (nI 0).toNatClampNeg (nI 6).toNatClampNeg)) (g + 2)) (nI 0).toNatClampNeg (nI 0).toNatClampNeg (nI 36).toNatClampNeg)) (g + 3)) (nI 0).toNatClampNeg (nI 0).toNatClampNeg (nI 4).toNatClampNeg)) := by
  have z : (nI 0).toNatClampNeg = 0 := by decide
  have n6 : (nI 6).toNatClampNeg = 6 := by decide
  have n36 : (nI 36).toNatClampNeg = 36 := by decide
  have n4 : (nI 4).toNatClampNeg = 4 := by decide
  rw [z, n6, n36, n4]
  unfold cpM at h
  simp only [uI_ne (show g + 1 ≠ g by omega), uI_ne (show g + 2 ≠ g by omega), uI_ne (show g + 3 ≠ g by omega), uI_ne (show b ≠ g by omega), uI_ne (show b + 1 ≠ g by omega), uI_ne (show b + 2 ≠ g by omega), uI_ne (show b + 3 ≠ g by omega), rI_ne (show g + 2 ≠ g + 1 by omega), rI_ne (show g + 3 ≠ g + 1 by omega), rI_ne (show g + 3 ≠ g + 2 by omega), rI_ne (show b + 2 ≠ g + 1 by omega), rI_ne (show b + 3 ≠ g + 1 by omega), rI_ne (show b + 3 ≠ g + 2 by omega)]
  exact h
theorem C99 {d : Nat} {m : Mm} {Q : Option Value → Mm → Prop} {b g : Nat} (hd : 1 ≤ d) (hB : SW m.2.2 b) (hG : SW m.2.2 g) (hbg : b + 4 ≤ g ∨ g + 4 ≤ b) (hQ : Q none (cpM m b g)) : Cc d 0 0 99 [.ref g, .ref b] m Q := by
  refine ent (n := 86) z99 (by decide) rfl (by decide) (Nat.le_of_ble_eq_true rfl) (fun sc => ?_)
  refine And.intro (SWo_0 hB) ?_
  refine And.intro (SWo_0 hG) ?_
  refine And.intro (SWo_0 hB) ?_
  refine And.intro (SWo_0 hG) ?_
  refine And.intro (SWo_0 hB) (Exists.intro _ (And.intro (SWr_0_2 hB) ?_))
  refine And.intro (SWo_0 hG) (Exists.intro _ (And.intro (SWr_0_2 hG) ?_))
  refine And.intro ⟨by omega, Nat.le_of_ble_eq_true rfl⟩ (And.intro ⟨(SWo_1 hB), (SWo_1 hG)⟩ (And.intro ⟨by decide, by decide, by decide, by show 0 + 6 ≤ (mS m (b + 1)).2; rw [SWn_1 hB]; decide, by show 0 + 6 ≤ (mS m (g + 1)).2; rw [SWn_1 hG]; decide⟩ ?_))
  refine And.intro (SWo_0 hB) (Exists.intro _ (And.intro (SWr_0_3 hB) ?_))
  refine And.intro (SWo_0 hG) (Exists.intro _ (And.intro (SWr_0_3 hG) ?_))
  refine And.intro ⟨by omega, Nat.le_of_ble_eq_true rfl⟩ (And.intro ⟨(SWo_2 hB), (SWo_2 hG)⟩ (And.intro ⟨by decide, by decide, by decide, by show 0 + 36 ≤ (mS m (b + 2)).2; rw [SWn_2 hB]; decide, by show 0 + 36 ≤ (mS m (g + 2)).2; rw [SWn_2 hG]; decide⟩ ?_))
  refine And.intro (SWo_0 hB) (Exists.intro _ (And.intro (SWr_0_4 hB) ?_))
  refine And.intro (SWo_0 hG) (Exists.intro _ (And.intro (SWr_0_4 hG) ?_))
  refine And.intro ⟨by omega, Nat.le_of_ble_eq_true rfl⟩ (And.intro ⟨(SWo_3 hB), (SWo_3 hG)⟩ (And.intro ⟨by decide, by decide, by decide, by show 0 + 4 ≤ (mS m (b + 3)).2; rw [SWn_3 hB]; decide, by show 0 + 4 ≤ (mS m (g + 3)).2; rw [SWn_3 hG]; decide⟩ ?_))
  refine And.intro ⟨rfl, rfl, Nat.le_refl _, Nat.le_refl _⟩ ?_
  exact cpM_e (P := fun m9 => Q none m9) hbg hQ
