/-! ===== begin ===== -/
def beZ (D : Nat → Nat → Int32) (p : Nat) (f : Int32) : Nat → Nat → Int32 := ud (ud (ud (ud (ud D 1 p f) 2 p (-nI 2)) 7 p (nI 0)) 8 p (nI 0)) 9 p (nI 0)
def beY (Λ : Nat → Nat → Int32) (l : Int32) (D : Nat → Nat → Int32) (p : Nat) : Nat → Nat → Int32 := ud (ud (ud D 0 11 (D 0 11 + nI 1)) 3 p (Λ 9 (p * 7 + 2))) 4 p (weF (Λ 9) l p)
abbrev prP (np : Nat) (w : Int32) (p : Nat) : Prop := p < np ∧ (w = -nI 1 ∨ w = nI p)
def beG (Λ : Nat → Nat → Int32) (w : Int32) (g p : Nat) : Nat := if w = -nI 1 then nv (Λ 9 (p * 7 + 3)) else g
def beS (Λ : Nat → Nat → Int32) (np : Nat) (l w : Int32) (g : Nat) : Nat → (Nat → Nat → Int32) → Nat → Nat → Int32 := fun p D => if prP np w p then comF (beY Λ l (beZ D p (nI 2)) p) p (beG Λ w g p) (Λ 9 (p * 7 + 4)) 0 else beZ D p (nI 3)
def beQ (Λ : Nat → Nat → Int32) (np : Nat) (l w : Int32) (g : Nat) (D : Nat → Nat → Int32) (p : Nat) : Nat → Nat → Int32 := fo (beS Λ np l w g) (ud D 0 11 (nI 0)) p
theorem beQ_s {Λ : Nat → Nat → Int32} {np : Nat} {l w : Int32} {g : Nat} {D : Nat → Nat → Int32} {p : Nat} : beQ Λ np l w g D (p + 1) = beS Λ np l w g p (beQ Λ np l w g D p) := rfl
theorem lq2 {sc : Nat × (Nat → Int32)} {d : Nat} {m : Mm} {Q : Option Value → Mm → Prop} {x : Nat} {D : Nat → Nat → Int32} (hD : DW m.2.2 x) {a b : Nat} (hL : LW m.2.2 a) (hax : a + 19 ≤ x) {n np g : Nat} {l w gi : Int32} (hd : 2 ≤ d) (hJ : JE (lam m a) (lam m b) n np) (hnp : mI m (a + 1) 8 = nI np) (hnp8 : np ≤ 8) (hgi : ¬ w = -nI 1 → gi = nI g) (hg : ¬ w = -nI 1 → g < 6) (hQ : Q none (bput m x 12 (beQ (lam m a) np l w g D 8)))  : ∀ (j p : Nat), p ≤ 8 → 8 + 1 ≤ p + j → Jj sc d 0 0 (mth 2) (pg P2 5).1 [some (.ref x), some (.ref a), some (.int l), some (.int w), some (.int gi), some (.int (nI p)), none] [] (bput m x 12 (beQ (lam m a) np l w g D p)) 0 0 Q := by
  intro j
  induction j with
  | zero => intro p h1 h2; omega
  | succ j ih =>
    intro p h1 h2
    refine J_w z2 (i := 5) (by decide) 208 ?_
    refine And.intro (fun cz7 => ?_) (fun cz7 => ?_)
    · -- 7 taken: nI 8 ≤ nI p
      have kz7 : 8 ≤ p := kle (a := 8) (b := p) rfl rfl (by omega) (by omega) cz7
      refine And.intro ⟨rfl, rfl, Nat.le_refl _, Nat.le_refl _⟩ ?_
      rw [show p = 8 by omega]
      exact hQ
    · -- 7 not: ¬ nI 8 ≤ nI p
      have kz7 : p < 8 := knle (a := 8) (b := p) rfl rfl (by omega) (by omega) cz7
      refine And.intro ⟨by omega, Nat.le_of_ble_eq_true rfl, Nat.le_refl _, Nat.le_refl _⟩ (And.intro (LWo_0 hL) ?_)
      refine C24 (m := (bput m x 12 (beQ (lam m a) np l w g D p))) hL ?_
      rw [bput_lo (m := m) (x := x) (n := 12) (D := (beQ (lam m a) np l w g D p)) (b := (a + 1)) (by omega)]
      rw [hnp]
      refine And.intro (fun cz11 => ?_) (fun cz11 => ?_)
      · -- 11 taken: nI np ≤ nI p
        have kz11 : np ≤ p := kle (a := np) (b := p) rfl rfl (by omega) (by omega) cz11
        refine And.intro (DWo_0 hD) (Exists.intro _ (And.intro (DWr_0_0 hD) ?_))
        refine And.intro (fun cz26 => ?_) (fun cz26 => False.elim (absurd cz26 (by decide)))
        refine And.intro (DWi_1 hD (vi rfl (by omega))) ?_
        rw [nI_clamp (show p < 2 ^ 31 by omega)]
        rw [bput_u (x := x) (f := 1) (by decide)]
        refine And.intro (DWo_0 hD) (Exists.intro _ (And.intro (DWr_0_1 hD) ?_))
        refine And.intro (DWi_2 hD (vi rfl (by omega))) ?_
        rw [nI_clamp (show p < 2 ^ 31 by omega)]
        rw [bput_u (x := x) (f := 2) (by decide)]
        refine And.intro (DWo_0 hD) (Exists.intro _ (And.intro (DWr_0_6 hD) ?_))
        refine And.intro (DWi_7 hD (vi rfl (by omega))) ?_
        rw [nI_clamp (show p < 2 ^ 31 by omega)]
        rw [bput_u (x := x) (f := 7) (by decide)]
        refine And.intro (DWo_0 hD) (Exists.intro _ (And.intro (DWr_0_7 hD) ?_))
        refine And.intro (DWi_8 hD (vi rfl (by omega))) ?_
        rw [nI_clamp (show p < 2 ^ 31 by omega)]
        rw [bput_u (x := x) (f := 8) (by decide)]
        refine And.intro (DWo_0 hD) (Exists.intro _ (And.intro (DWr_0_8 hD) ?_))
        refine And.intro (DWi_9 hD (vi rfl (by omega))) ?_
        rw [nI_clamp (show p < 2 ^ 31 by omega)]
        rw [bput_u (x := x) (f := 9) (by decide)]
        refine And.intro (fun cz52 => ?_) (fun cz52 => False.elim (absurd cz52 (by decide)))
        show Jj sc d 0 0 (mth 2) (pg P2 5).1 [some (.ref x), some (.ref a), some (.int l), some (.int w), some (.int gi), some (.int (nI p + nI 1)), some (.int (nI 0))] [] (bput m x 12 (ud (ud (ud (ud (ud (beQ (lam m a) np l w g D p) 1 p (nI 3)) 2 p (-nI 2)) 7 p (nI 0)) 8 p (nI 0)) 9 p (nI 0))) 0 0 Q
        rw [show nI p + nI 1 = nI (p + 1) from by simp only [nI_add, pk_mul]]
        refine J_wk (L' := [some (.ref x), some (.ref a), some (.int l), some (.int w), some (.int gi), some (.int (nI (p + 1))), none]) ⟨rfl, rfl, rfl, rfl, rfl, rfl, trivial⟩ ?_
        have z := ih (p + 1) (by omega) (by omega)
        rw [beQ_s] at z
        unfold beS at z
        rw [if_neg (fun z => absurd z.1 (by omega))] at z
        exact z
      · -- 11 not: ¬ nI np ≤ nI p
        have kz11 : p < np := knle (a := np) (b := p) rfl rfl (by omega) (by omega) cz11
        refine And.intro (fun cz14 => ?_) (fun cz14 => ?_)
        · -- 14 taken: w = -nI 1
          refine And.intro (DWo_0 hD) (Exists.intro _ (And.intro (DWr_0_0 hD) ?_))
          refine And.intro (fun cz26 => False.elim (absurd cz26 (by decide))) (fun cz26 => ?_)
          refine And.intro (DWi_1 hD (vi rfl (by omega))) ?_
          rw [nI_clamp (show p < 2 ^ 31 by omega)]
          rw [bput_u (x := x) (f := 1) (by decide)]
          refine And.intro (DWo_0 hD) (Exists.intro _ (And.intro (DWr_0_1 hD) ?_))
          refine And.intro (DWi_2 hD (vi rfl (by omega))) ?_
          rw [nI_clamp (show p < 2 ^ 31 by omega)]
          rw [bput_u (x := x) (f := 2) (by decide)]
          refine And.intro (DWo_0 hD) (Exists.intro _ (And.intro (DWr_0_6 hD) ?_))
          refine And.intro (DWi_7 hD (vi rfl (by omega))) ?_
          rw [nI_clamp (show p < 2 ^ 31 by omega)]
          rw [bput_u (x := x) (f := 7) (by decide)]
          refine And.intro (DWo_0 hD) (Exists.intro _ (And.intro (DWr_0_7 hD) ?_))
          refine And.intro (DWi_8 hD (vi rfl (by omega))) ?_
          rw [nI_clamp (show p < 2 ^ 31 by omega)]
          rw [bput_u (x := x) (f := 8) (by decide)]
          refine And.intro (DWo_0 hD) (Exists.intro _ (And.intro (DWr_0_8 hD) ?_))
          refine And.intro (DWi_9 hD (vi rfl (by omega))) ?_
          rw [nI_clamp (show p < 2 ^ 31 by omega)]
          rw [bput_u (x := x) (f := 9) (by decide)]
          refine And.intro (fun cz52 => False.elim (absurd cz52 (by decide))) (fun cz52 => ?_)
          refine And.intro rfl ?_
          refine And.intro (DWo_0 hD) ?_
          rw [bput_0 (x := x) (by decide)]
          rw [ud_ne (D := (ud (ud (ud (ud (beQ (lam m a) np l w g D p) 1 p (nI 2)) 2 p (-nI 2)) 7 p (nI 0)) 8 p (nI 0))) (f := 9) (g := 0) (by decide)]
          rw [ud_ne (D := (ud (ud (ud (beQ (lam m a) np l w g D p) 1 p (nI 2)) 2 p (-nI 2)) 7 p (nI 0))) (f := 8) (g := 0) (by decide)]
          rw [ud_ne (D := (ud (ud (beQ (lam m a) np l w g D p) 1 p (nI 2)) 2 p (-nI 2))) (f := 7) (g := 0) (by decide)]
          rw [ud_ne (D := (ud (beQ (lam m a) np l w g D p) 1 p (nI 2))) (f := 2) (g := 0) (by decide)]
          rw [ud_ne (D := (beQ (lam m a) np l w g D p)) (f := 1) (g := 0) (by decide)]
          refine And.intro (DWo_0 hD) ?_
          rw [bput_u0 (x := x) (by decide)]
          refine And.intro (DWo_0 hD) (Exists.intro _ (And.intro (DWr_0_2 hD) ?_))
          refine And.intro ⟨by omega, Nat.le_of_ble_eq_true rfl, Nat.le_refl _, Nat.le_refl _⟩ (And.intro (LWo_0 hL) ?_)
          refine C27 (m := (bput m x 12 (ud (ud (ud (ud (ud (ud (beQ (lam m a) np l w g D p) 1 p (nI 2)) 2 p (-nI 2)) 7 p (nI 0)) 8 p (nI 0)) 9 p (nI 0)) 0 11 (((beQ (lam m a) np l w g D p) 0 11) + nI 1)))) (p := p) (w := 2) hL (by omega) (by omega) ?_
          rw [bput_lo (m := m) (x := x) (n := 12) (D := (ud (ud (ud (ud (ud (ud (beQ (lam m a) np l w g D p) 1 p (nI 2)) 2 p (-nI 2)) 7 p (nI 0)) 8 p (nI 0)) 9 p (nI 0)) 0 11 (((beQ (lam m a) np l w g D p) 0 11) + nI 1))) (b := (a + 9)) (by omega)]
          refine And.intro (DWi_3 hD (vi rfl (by omega))) ?_
          rw [nI_clamp (show p < 2 ^ 31 by omega)]
          rw [bput_u (x := x) (f := 3) (by decide)]
          refine And.intro (DWo_0 hD) (Exists.intro _ (And.intro (DWr_0_3 hD) ?_))
          refine And.intro ⟨by omega, Nat.le_of_ble_eq_true rfl, Nat.le_refl _, Nat.le_refl _⟩ ?_
          refine C3 (m := (bput m x 12 (ud (ud (ud (ud (ud (ud (ud (beQ (lam m a) np l w g D p) 1 p (nI 2)) 2 p (-nI 2)) 7 p (nI 0)) 8 p (nI 0)) 9 p (nI 0)) 0 11 (((beQ (lam m a) np l w g D p) 0 11) + nI 1)) 3 p (mI m (a + 9) (p * 7 + 2))))) (p := p) hL (by omega) (by omega) ?_
          rw [bput_lo (m := m) (x := x) (n := 12) (D := (ud (ud (ud (ud (ud (ud (ud (beQ (lam m a) np l w g D p) 1 p (nI 2)) 2 p (-nI 2)) 7 p (nI 0)) 8 p (nI 0)) 9 p (nI 0)) 0 11 (((beQ (lam m a) np l w g D p) 0 11) + nI 1)) 3 p (mI m (a + 9) (p * 7 + 2)))) (b := (a + 9)) (by omega)]
          refine And.intro (DWi_4 hD (vi rfl (by omega))) ?_
          rw [nI_clamp (show p < 2 ^ 31 by omega)]
          rw [bput_u (x := x) (f := 4) (by decide)]
          refine And.intro (fun cz79 => ?_) (fun cz79 => ?_)
          · -- 79 taken: ¬ w = -nI 1
            rw [hgi cz79]
            refine And.intro ⟨by omega, Nat.le_of_ble_eq_true rfl, Nat.le_refl _, Nat.le_refl _⟩ (And.intro (LWo_0 hL) ?_)
            refine C27 (m := (bput m x 12 (ud (ud (ud (ud (ud (ud (ud (ud (beQ (lam m a) np l w g D p) 1 p (nI 2)) 2 p (-nI 2)) 7 p (nI 0)) 8 p (nI 0)) 9 p (nI 0)) 0 11 (((beQ (lam m a) np l w g D p) 0 11) + nI 1)) 3 p (mI m (a + 9) (p * 7 + 2))) 4 p (weF (mI m (a + 9)) l p)))) (p := p) (w := 4) hL (by omega) (by omega) ?_
            rw [bput_lo (m := m) (x := x) (n := 12) (D := (ud (ud (ud (ud (ud (ud (ud (ud (beQ (lam m a) np l w g D p) 1 p (nI 2)) 2 p (-nI 2)) 7 p (nI 0)) 8 p (nI 0)) 9 p (nI 0)) 0 11 (((beQ (lam m a) np l w g D p) 0 11) + nI 1)) 3 p (mI m (a + 9) (p * 7 + 2))) 4 p (weF (mI m (a + 9)) l p))) (b := (a + 9)) (by omega)]
            refine And.intro ⟨by omega, Nat.le_of_ble_eq_true rfl, Nat.le_refl _, Nat.le_refl _⟩ (And.intro (DWo_0 hD) ?_)
            refine D4 (p := p) (g := g) (k := 0) hD (by omega) (hg cz79) (show upd ((beQ (lam m a) np l w g D p) 8) p (nI 0) p = nI 0 from upd_e) (by decide) ?_
            show Jj sc d 0 0 (mth 2) (pg P2 5).1 [some (.ref x), some (.ref a), some (.int l), some (.int w), some (.int (nI g)), some (.int (nI p + nI 1)), some (.int (nI 1))] [] (bput m x 12 (comF (ud (ud (ud (ud (ud (ud (ud (ud (beQ (lam m a) np l w g D p) 1 p (nI 2)) 2 p (-nI 2)) 7 p (nI 0)) 8 p (nI 0)) 9 p (nI 0)) 0 11 (((beQ (lam m a) np l w g D p) 0 11) + nI 1)) 3 p (mI m (a + 9) (p * 7 + 2))) 4 p (weF (mI m (a + 9)) l p)) p g (mI m (a + 9) (p * 7 + 4)) 0)) 0 0 Q
            rw [show nI p + nI 1 = nI (p + 1) from by simp only [nI_add, pk_mul]]
            refine J_wk (L' := [some (.ref x), some (.ref a), some (.int l), some (.int w), some (.int (nI g)), some (.int (nI (p + 1))), none]) ⟨rfl, rfl, rfl, rfl, rfl, rfl, trivial⟩ ?_
            have z := ih (p + 1) (by omega) (by omega)
            rw [beQ_s] at z
            unfold beS at z
            rw [if_pos ⟨kz11, Or.inl cz14⟩] at z
            rw [show beG (lam m a) w g p = g from if_neg cz79] at z
            rw [hgi cz79] at z
            exact z
          · -- 79 not: w = -nI 1
            have h3 := iR_e (hJ.1 p kz11).2.2.1 (by decide)
            change mI m (a + 9) (p * 7 + 3) = nI (nv (mI m (a + 9) (p * 7 + 3))) ∧ _ at h3
            refine And.intro ⟨by omega, Nat.le_of_ble_eq_true rfl, Nat.le_refl _, Nat.le_refl _⟩ (And.intro (LWo_0 hL) ?_)
            refine C27 (m := (bput m x 12 (ud (ud (ud (ud (ud (ud (ud (ud (beQ (lam m a) np l w g D p) 1 p (nI 2)) 2 p (-nI 2)) 7 p (nI 0)) 8 p (nI 0)) 9 p (nI 0)) 0 11 (((beQ (lam m a) np l w g D p) 0 11) + nI 1)) 3 p (mI m (a + 9) (p * 7 + 2))) 4 p (weF (mI m (a + 9)) l p)))) (p := p) (w := 3) hL (by omega) (by omega) ?_
            rw [bput_lo (m := m) (x := x) (n := 12) (D := (ud (ud (ud (ud (ud (ud (ud (ud (beQ (lam m a) np l w g D p) 1 p (nI 2)) 2 p (-nI 2)) 7 p (nI 0)) 8 p (nI 0)) 9 p (nI 0)) 0 11 (((beQ (lam m a) np l w g D p) 0 11) + nI 1)) 3 p (mI m (a + 9) (p * 7 + 2))) 4 p (weF (mI m (a + 9)) l p))) (b := (a + 9)) (by omega)]
            rw [h3.1]
            refine And.intro ⟨by omega, Nat.le_of_ble_eq_true rfl, Nat.le_refl _, Nat.le_refl _⟩ (And.intro (LWo_0 hL) ?_)
            refine C27 (m := (bput m x 12 (ud (ud (ud (ud (ud (ud (ud (ud (beQ (lam m a) np l w g D p) 1 p (nI 2)) 2 p (-nI 2)) 7 p (nI 0)) 8 p (nI 0)) 9 p (nI 0)) 0 11 (((beQ (lam m a) np l w g D p) 0 11) + nI 1)) 3 p (mI m (a + 9) (p * 7 + 2))) 4 p (weF (mI m (a + 9)) l p)))) (p := p) (w := 4) hL (by omega) (by omega) ?_
            rw [bput_lo (m := m) (x := x) (n := 12) (D := (ud (ud (ud (ud (ud (ud (ud (ud (beQ (lam m a) np l w g D p) 1 p (nI 2)) 2 p (-nI 2)) 7 p (nI 0)) 8 p (nI 0)) 9 p (nI 0)) 0 11 (((beQ (lam m a) np l w g D p) 0 11) + nI 1)) 3 p (mI m (a + 9) (p * 7 + 2))) 4 p (weF (mI m (a + 9)) l p))) (b := (a + 9)) (by omega)]
            refine And.intro ⟨by omega, Nat.le_of_ble_eq_true rfl, Nat.le_refl _, Nat.le_refl _⟩ (And.intro (DWo_0 hD) ?_)
            refine D4 (p := p) (g := (nv (mI m (a + 9) (p * 7 + 3)))) (k := 0) hD (by omega) h3.2 (show upd ((beQ (lam m a) np l w g D p) 8) p (nI 0) p = nI 0 from upd_e) (by decide) ?_
            show Jj sc d 0 0 (mth 2) (pg P2 5).1 [some (.ref x), some (.ref a), some (.int l), some (.int w), some (.int gi), some (.int (nI p + nI 1)), some (.int (nI 1))] [] (bput m x 12 (comF (ud (ud (ud (ud (ud (ud (ud (ud (beQ (lam m a) np l w g D p) 1 p (nI 2)) 2 p (-nI 2)) 7 p (nI 0)) 8 p (nI 0)) 9 p (nI 0)) 0 11 (((beQ (lam m a) np l w g D p) 0 11) + nI 1)) 3 p (mI m (a + 9) (p * 7 + 2))) 4 p (weF (mI m (a + 9)) l p)) p (nv (mI m (a + 9) (p * 7 + 3))) (mI m (a + 9) (p * 7 + 4)) 0)) 0 0 Q
            rw [show nI p + nI 1 = nI (p + 1) from by simp only [nI_add, pk_mul]]
            refine J_wk (L' := [some (.ref x), some (.ref a), some (.int l), some (.int w), some (.int gi), some (.int (nI (p + 1))), none]) ⟨rfl, rfl, rfl, rfl, rfl, rfl, trivial⟩ ?_
            have z := ih (p + 1) (by omega) (by omega)
            rw [beQ_s] at z
            unfold beS at z
            rw [if_pos ⟨kz11, Or.inl cz14⟩] at z
            rw [show beG (lam m a) w g p = nv (mI m (a + 9) (p * 7 + 3)) from if_pos cz79] at z
            exact z
        · -- 14 not: ¬ w = -nI 1
          refine And.intro (fun cz17 => ?_) (fun cz17 => ?_)
          · -- 17 taken: ¬ w = nI p
            refine And.intro (DWo_0 hD) (Exists.intro _ (And.intro (DWr_0_0 hD) ?_))
            refine And.intro (fun cz26 => ?_) (fun cz26 => False.elim (absurd cz26 (by decide)))
            refine And.intro (DWi_1 hD (vi rfl (by omega))) ?_
            rw [nI_clamp (show p < 2 ^ 31 by omega)]
            rw [bput_u (x := x) (f := 1) (by decide)]
            refine And.intro (DWo_0 hD) (Exists.intro _ (And.intro (DWr_0_1 hD) ?_))
            refine And.intro (DWi_2 hD (vi rfl (by omega))) ?_
            rw [nI_clamp (show p < 2 ^ 31 by omega)]
            rw [bput_u (x := x) (f := 2) (by decide)]
            refine And.intro (DWo_0 hD) (Exists.intro _ (And.intro (DWr_0_6 hD) ?_))
            refine And.intro (DWi_7 hD (vi rfl (by omega))) ?_
            rw [nI_clamp (show p < 2 ^ 31 by omega)]
            rw [bput_u (x := x) (f := 7) (by decide)]
            refine And.intro (DWo_0 hD) (Exists.intro _ (And.intro (DWr_0_7 hD) ?_))
            refine And.intro (DWi_8 hD (vi rfl (by omega))) ?_
            rw [nI_clamp (show p < 2 ^ 31 by omega)]
            rw [bput_u (x := x) (f := 8) (by decide)]
            refine And.intro (DWo_0 hD) (Exists.intro _ (And.intro (DWr_0_8 hD) ?_))
            refine And.intro (DWi_9 hD (vi rfl (by omega))) ?_
            rw [nI_clamp (show p < 2 ^ 31 by omega)]
            rw [bput_u (x := x) (f := 9) (by decide)]
            refine And.intro (fun cz52 => ?_) (fun cz52 => False.elim (absurd cz52 (by decide)))
            show Jj sc d 0 0 (mth 2) (pg P2 5).1 [some (.ref x), some (.ref a), some (.int l), some (.int w), some (.int gi), some (.int (nI p + nI 1)), some (.int (nI 0))] [] (bput m x 12 (ud (ud (ud (ud (ud (beQ (lam m a) np l w g D p) 1 p (nI 3)) 2 p (-nI 2)) 7 p (nI 0)) 8 p (nI 0)) 9 p (nI 0))) 0 0 Q
            rw [show nI p + nI 1 = nI (p + 1) from by simp only [nI_add, pk_mul]]
            refine J_wk (L' := [some (.ref x), some (.ref a), some (.int l), some (.int w), some (.int gi), some (.int (nI (p + 1))), none]) ⟨rfl, rfl, rfl, rfl, rfl, rfl, trivial⟩ ?_
            have z := ih (p + 1) (by omega) (by omega)
            rw [beQ_s] at z
            unfold beS at z
            rw [if_neg (fun z => z.2.elim cz14 cz17)] at z
            exact z
          · -- 17 not: w = nI p
            refine And.intro (DWo_0 hD) (Exists.intro _ (And.intro (DWr_0_0 hD) ?_))
            refine And.intro (fun cz26 => False.elim (absurd cz26 (by decide))) (fun cz26 => ?_)
            refine And.intro (DWi_1 hD (vi rfl (by omega))) ?_
            rw [nI_clamp (show p < 2 ^ 31 by omega)]
            rw [bput_u (x := x) (f := 1) (by decide)]
            refine And.intro (DWo_0 hD) (Exists.intro _ (And.intro (DWr_0_1 hD) ?_))
            refine And.intro (DWi_2 hD (vi rfl (by omega))) ?_
            rw [nI_clamp (show p < 2 ^ 31 by omega)]
            rw [bput_u (x := x) (f := 2) (by decide)]
            refine And.intro (DWo_0 hD) (Exists.intro _ (And.intro (DWr_0_6 hD) ?_))
            refine And.intro (DWi_7 hD (vi rfl (by omega))) ?_
            rw [nI_clamp (show p < 2 ^ 31 by omega)]
            rw [bput_u (x := x) (f := 7) (by decide)]
            refine And.intro (DWo_0 hD) (Exists.intro _ (And.intro (DWr_0_7 hD) ?_))
            refine And.intro (DWi_8 hD (vi rfl (by omega))) ?_
            rw [nI_clamp (show p < 2 ^ 31 by omega)]
            rw [bput_u (x := x) (f := 8) (by decide)]
            refine And.intro (DWo_0 hD) (Exists.intro _ (And.intro (DWr_0_8 hD) ?_))
            refine And.intro (DWi_9 hD (vi rfl (by omega))) ?_
            rw [nI_clamp (show p < 2 ^ 31 by omega)]
            rw [bput_u (x := x) (f := 9) (by decide)]
            refine And.intro (fun cz52 => False.elim (absurd cz52 (by decide))) (fun cz52 => ?_)
            refine And.intro rfl ?_
            refine And.intro (DWo_0 hD) ?_
            rw [bput_0 (x := x) (by decide)]
            rw [ud_ne (D := (ud (ud (ud (ud (beQ (lam m a) np l w g D p) 1 p (nI 2)) 2 p (-nI 2)) 7 p (nI 0)) 8 p (nI 0))) (f := 9) (g := 0) (by decide)]
            rw [ud_ne (D := (ud (ud (ud (beQ (lam m a) np l w g D p) 1 p (nI 2)) 2 p (-nI 2)) 7 p (nI 0))) (f := 8) (g := 0) (by decide)]
            rw [ud_ne (D := (ud (ud (beQ (lam m a) np l w g D p) 1 p (nI 2)) 2 p (-nI 2))) (f := 7) (g := 0) (by decide)]
            rw [ud_ne (D := (ud (beQ (lam m a) np l w g D p) 1 p (nI 2))) (f := 2) (g := 0) (by decide)]
            rw [ud_ne (D := (beQ (lam m a) np l w g D p)) (f := 1) (g := 0) (by decide)]
            refine And.intro (DWo_0 hD) ?_
            rw [bput_u0 (x := x) (by decide)]
            refine And.intro (DWo_0 hD) (Exists.intro _ (And.intro (DWr_0_2 hD) ?_))
            refine And.intro ⟨by omega, Nat.le_of_ble_eq_true rfl, Nat.le_refl _, Nat.le_refl _⟩ (And.intro (LWo_0 hL) ?_)
            refine C27 (m := (bput m x 12 (ud (ud (ud (ud (ud (ud (beQ (lam m a) np l w g D p) 1 p (nI 2)) 2 p (-nI 2)) 7 p (nI 0)) 8 p (nI 0)) 9 p (nI 0)) 0 11 (((beQ (lam m a) np l w g D p) 0 11) + nI 1)))) (p := p) (w := 2) hL (by omega) (by omega) ?_
            rw [bput_lo (m := m) (x := x) (n := 12) (D := (ud (ud (ud (ud (ud (ud (beQ (lam m a) np l w g D p) 1 p (nI 2)) 2 p (-nI 2)) 7 p (nI 0)) 8 p (nI 0)) 9 p (nI 0)) 0 11 (((beQ (lam m a) np l w g D p) 0 11) + nI 1))) (b := (a + 9)) (by omega)]
            refine And.intro (DWi_3 hD (vi rfl (by omega))) ?_
            rw [nI_clamp (show p < 2 ^ 31 by omega)]
            rw [bput_u (x := x) (f := 3) (by decide)]
            refine And.intro (DWo_0 hD) (Exists.intro _ (And.intro (DWr_0_3 hD) ?_))
            refine And.intro ⟨by omega, Nat.le_of_ble_eq_true rfl, Nat.le_refl _, Nat.le_refl _⟩ ?_
            refine C3 (m := (bput m x 12 (ud (ud (ud (ud (ud (ud (ud (beQ (lam m a) np l w g D p) 1 p (nI 2)) 2 p (-nI 2)) 7 p (nI 0)) 8 p (nI 0)) 9 p (nI 0)) 0 11 (((beQ (lam m a) np l w g D p) 0 11) + nI 1)) 3 p (mI m (a + 9) (p * 7 + 2))))) (p := p) hL (by omega) (by omega) ?_
            rw [bput_lo (m := m) (x := x) (n := 12) (D := (ud (ud (ud (ud (ud (ud (ud (beQ (lam m a) np l w g D p) 1 p (nI 2)) 2 p (-nI 2)) 7 p (nI 0)) 8 p (nI 0)) 9 p (nI 0)) 0 11 (((beQ (lam m a) np l w g D p) 0 11) + nI 1)) 3 p (mI m (a + 9) (p * 7 + 2)))) (b := (a + 9)) (by omega)]
            refine And.intro (DWi_4 hD (vi rfl (by omega))) ?_
            rw [nI_clamp (show p < 2 ^ 31 by omega)]
            rw [bput_u (x := x) (f := 4) (by decide)]
            refine And.intro (fun cz79 => ?_) (fun cz79 => ?_)
            · -- 79 taken: ¬ w = -nI 1
              rw [hgi cz79]
              refine And.intro ⟨by omega, Nat.le_of_ble_eq_true rfl, Nat.le_refl _, Nat.le_refl _⟩ (And.intro (LWo_0 hL) ?_)
              refine C27 (m := (bput m x 12 (ud (ud (ud (ud (ud (ud (ud (ud (beQ (lam m a) np l w g D p) 1 p (nI 2)) 2 p (-nI 2)) 7 p (nI 0)) 8 p (nI 0)) 9 p (nI 0)) 0 11 (((beQ (lam m a) np l w g D p) 0 11) + nI 1)) 3 p (mI m (a + 9) (p * 7 + 2))) 4 p (weF (mI m (a + 9)) l p)))) (p := p) (w := 4) hL (by omega) (by omega) ?_
              rw [bput_lo (m := m) (x := x) (n := 12) (D := (ud (ud (ud (ud (ud (ud (ud (ud (beQ (lam m a) np l w g D p) 1 p (nI 2)) 2 p (-nI 2)) 7 p (nI 0)) 8 p (nI 0)) 9 p (nI 0)) 0 11 (((beQ (lam m a) np l w g D p) 0 11) + nI 1)) 3 p (mI m (a + 9) (p * 7 + 2))) 4 p (weF (mI m (a + 9)) l p))) (b := (a + 9)) (by omega)]
              refine And.intro ⟨by omega, Nat.le_of_ble_eq_true rfl, Nat.le_refl _, Nat.le_refl _⟩ (And.intro (DWo_0 hD) ?_)
              refine D4 (p := p) (g := g) (k := 0) hD (by omega) (hg cz79) (show upd ((beQ (lam m a) np l w g D p) 8) p (nI 0) p = nI 0 from upd_e) (by decide) ?_
              show Jj sc d 0 0 (mth 2) (pg P2 5).1 [some (.ref x), some (.ref a), some (.int l), some (.int w), some (.int (nI g)), some (.int (nI p + nI 1)), some (.int (nI 1))] [] (bput m x 12 (comF (ud (ud (ud (ud (ud (ud (ud (ud (beQ (lam m a) np l w g D p) 1 p (nI 2)) 2 p (-nI 2)) 7 p (nI 0)) 8 p (nI 0)) 9 p (nI 0)) 0 11 (((beQ (lam m a) np l w g D p) 0 11) + nI 1)) 3 p (mI m (a + 9) (p * 7 + 2))) 4 p (weF (mI m (a + 9)) l p)) p g (mI m (a + 9) (p * 7 + 4)) 0)) 0 0 Q
              rw [show nI p + nI 1 = nI (p + 1) from by simp only [nI_add, pk_mul]]
              refine J_wk (L' := [some (.ref x), some (.ref a), some (.int l), some (.int w), some (.int (nI g)), some (.int (nI (p + 1))), none]) ⟨rfl, rfl, rfl, rfl, rfl, rfl, trivial⟩ ?_
              have z := ih (p + 1) (by omega) (by omega)
              rw [beQ_s] at z
              unfold beS at z
              rw [if_pos ⟨kz11, Or.inr cz17⟩] at z
              rw [show beG (lam m a) w g p = g from if_neg cz79] at z
              rw [hgi cz79] at z
              exact z
            · -- 79 not: w = -nI 1
              have h3 := iR_e (hJ.1 p kz11).2.2.1 (by decide)
              change mI m (a + 9) (p * 7 + 3) = nI (nv (mI m (a + 9) (p * 7 + 3))) ∧ _ at h3
              refine And.intro ⟨by omega, Nat.le_of_ble_eq_true rfl, Nat.le_refl _, Nat.le_refl _⟩ (And.intro (LWo_0 hL) ?_)
              refine C27 (m := (bput m x 12 (ud (ud (ud (ud (ud (ud (ud (ud (beQ (lam m a) np l w g D p) 1 p (nI 2)) 2 p (-nI 2)) 7 p (nI 0)) 8 p (nI 0)) 9 p (nI 0)) 0 11 (((beQ (lam m a) np l w g D p) 0 11) + nI 1)) 3 p (mI m (a + 9) (p * 7 + 2))) 4 p (weF (mI m (a + 9)) l p)))) (p := p) (w := 3) hL (by omega) (by omega) ?_
              rw [bput_lo (m := m) (x := x) (n := 12) (D := (ud (ud (ud (ud (ud (ud (ud (ud (beQ (lam m a) np l w g D p) 1 p (nI 2)) 2 p (-nI 2)) 7 p (nI 0)) 8 p (nI 0)) 9 p (nI 0)) 0 11 (((beQ (lam m a) np l w g D p) 0 11) + nI 1)) 3 p (mI m (a + 9) (p * 7 + 2))) 4 p (weF (mI m (a + 9)) l p))) (b := (a + 9)) (by omega)]
              rw [h3.1]
              refine And.intro ⟨by omega, Nat.le_of_ble_eq_true rfl, Nat.le_refl _, Nat.le_refl _⟩ (And.intro (LWo_0 hL) ?_)
              refine C27 (m := (bput m x 12 (ud (ud (ud (ud (ud (ud (ud (ud (beQ (lam m a) np l w g D p) 1 p (nI 2)) 2 p (-nI 2)) 7 p (nI 0)) 8 p (nI 0)) 9 p (nI 0)) 0 11 (((beQ (lam m a) np l w g D p) 0 11) + nI 1)) 3 p (mI m (a + 9) (p * 7 + 2))) 4 p (weF (mI m (a + 9)) l p)))) (p := p) (w := 4) hL (by omega) (by omega) ?_
              rw [bput_lo (m := m) (x := x) (n := 12) (D := (ud (ud (ud (ud (ud (ud (ud (ud (beQ (lam m a) np l w g D p) 1 p (nI 2)) 2 p (-nI 2)) 7 p (nI 0)) 8 p (nI 0)) 9 p (nI 0)) 0 11 (((beQ (lam m a) np l w g D p) 0 11) + nI 1)) 3 p (mI m (a + 9) (p * 7 + 2))) 4 p (weF (mI m (a + 9)) l p))) (b := (a + 9)) (by omega)]
              refine And.intro ⟨by omega, Nat.le_of_ble_eq_true rfl, Nat.le_refl _, Nat.le_refl _⟩ (And.intro (DWo_0 hD) ?_)
              refine D4 (p := p) (g := (nv (mI m (a + 9) (p * 7 + 3)))) (k := 0) hD (by omega) h3.2 (show upd ((beQ (lam m a) np l w g D p) 8) p (nI 0) p = nI 0 from upd_e) (by decide) ?_
              show Jj sc d 0 0 (mth 2) (pg P2 5).1 [some (.ref x), some (.ref a), some (.int l), some (.int w), some (.int gi), some (.int (nI p + nI 1)), some (.int (nI 1))] [] (bput m x 12 (comF (ud (ud (ud (ud (ud (ud (ud (ud (beQ (lam m a) np l w g D p) 1 p (nI 2)) 2 p (-nI 2)) 7 p (nI 0)) 8 p (nI 0)) 9 p (nI 0)) 0 11 (((beQ (lam m a) np l w g D p) 0 11) + nI 1)) 3 p (mI m (a + 9) (p * 7 + 2))) 4 p (weF (mI m (a + 9)) l p)) p (nv (mI m (a + 9) (p * 7 + 3))) (mI m (a + 9) (p * 7 + 4)) 0)) 0 0 Q
              rw [show nI p + nI 1 = nI (p + 1) from by simp only [nI_add, pk_mul]]
              refine J_wk (L' := [some (.ref x), some (.ref a), some (.int l), some (.int w), some (.int gi), some (.int (nI (p + 1))), none]) ⟨rfl, rfl, rfl, rfl, rfl, rfl, trivial⟩ ?_
              have z := ih (p + 1) (by omega) (by omega)
              rw [beQ_s] at z
              unfold beS at z
              rw [if_pos ⟨kz11, Or.inr cz17⟩] at z
              rw [show beG (lam m a) w g p = nv (mI m (a + 9) (p * 7 + 3)) from if_pos cz79] at z
              exact z
theorem D2 {d : Nat} {m : Mm} {Q : Option Value → Mm → Prop} {x : Nat} {D : Nat → Nat → Int32} (hD : DW m.2.2 x) {a b : Nat} (hL : LW m.2.2 a) (hax : a + 19 ≤ x) {n np g : Nat} {l w gi : Int32} (hd : 2 ≤ d) (hJ : JE (lam m a) (lam m b) n np) (hnp : mI m (a + 1) 8 = nI np) (hnp8 : np ≤ 8) (hgi : ¬ w = -nI 1 → gi = nI g) (hg : ¬ w = -nI 1 → g < 6) (hQ : Q none (bput m x 12 (beQ (lam m a) np l w g D 8))) : Cc d 0 0 2 [.ref x, .ref a, .int l, .int w, .int gi] (bput m x 12 D) Q := by
  refine ent (n := 208) z2 (by decide) rfl (by decide) (Nat.le_of_ble_eq_true rfl) (fun sc => ?_)
  refine And.intro (DWo_0 hD) ?_
  rw [bput_u0 (x := x) (by decide)]
  show Jj sc d 0 0 (mth 2) (pg P2 5).1 [some (.ref x), some (.ref a), some (.int l), some (.int w), some (.int gi), some (.int (nI 0)), none] [] (bput m x 12 (ud D 0 11 (nI 0))) 0 0 Q
  exact lq2 hD hL hax hd hJ hnp hnp8 hgi hg hQ 9 0 (by decide) (by decide)
/-! ===== countQueues ===== -/
def qzQ (D : Nat → Nat → Int32) (h g : Nat) : Nat → Nat → Int32 := fo (fun g D => ud D 11 (g * 96 + h) (nI 0)) D g
def qnF (x : Int32) : Int32 := vp_nar .byte (x + nI 1).toInt8.toInt32
def qcS (h : Nat) : Nat → (Nat → Nat → Int32) → Nat → Nat → Int32 := fun p D => if D 0 11 ≤ 0 then D else if stF (D 1) (D 5) (D 6) p (D 5 p) (nI h) = 0 then D else ud D 11 (nv (D 5 p) * 96 + h) (qnF (D 11 (nv (D 5 p) * 96 + h)))
def qcQ (D : Nat → Nat → Int32) (h p : Nat) : Nat → Nat → Int32 := fo (qcS h) D p
def cqF (D : Nat → Nat → Int32) (h : Nat) : Nat → Nat → Int32 := qcQ (qzQ D h 6) h 8
theorem qzQ_s {D : Nat → Nat → Int32} {h g : Nat} : qzQ D h (g + 1) = ud (qzQ D h g) 11 (g * 96 + h) (nI 0) := rfl
theorem qcQ_s {D : Nat → Nat → Int32} {h p : Nat} : qcQ D h (p + 1) = qcS h p (qcQ D h p) := rfl
theorem qzQ_r {D : Nat → Nat → Int32} {h f : Nat} (hf : f ≠ 11) : ∀ g, qzQ D h g f = D f
  | 0 => rfl
  | g + 1 => by rw [qzQ_s, ud_ne hf, qzQ_r hf g]
theorem qcQ_r {D : Nat → Nat → Int32} {h f : Nat} (hf : f ≠ 11) : ∀ p, qcQ D h p f = D f
  | 0 => rfl
  | p + 1 => by
    rw [qcQ_s]
    unfold qcS
    split
    · exact qcQ_r hf p
    · split
      · exact qcQ_r hf p
      · rw [ud_ne hf, qcQ_r hf p]
theorem qcQ_n {D : Nat → Nat → Int32} {h i : Nat} (hn : D 0 11 ≤ 0) : ∀ n, qcQ D h (i + n) = qcQ D h i
  | 0 => rfl
  | n + 1 => by
    rw [show i + (n + 1) = (i + n) + 1 from rfl, qcQ_s]
    unfold qcS
    rw [if_pos (by rw [qcQ_r (by decide)]; exact hn), qcQ_n hn n]
theorem cqF_r {D : Nat → Nat → Int32} {h f : Nat} (hf : f ≠ 11) : cqF D h f = D f := by
  unfold cqF
  rw [qcQ_r hf, qzQ_r hf]
theorem lq6b {sc : Nat × (Nat → Int32)} {d : Nat} {m : Mm} {Q : Option Value → Mm → Prop} {x : Nat} {D : Nat → Nat → Int32} (hD : DW m.2.2 x) {h np : Nat} (hd : 1 ≤ d) (hh : h ≤ 95) (hI : DI np D) (hQ : Q none (bput m x 12 (cqF D h)))  : ∀ (j p : Nat), p ≤ 8 → 8 + 1 ≤ p + j → Jj sc d 0 0 (mth 6) (pg P6 18).1 [some (.ref x), some (.int (nI h)), some (.int (nI p))] [] (bput m x 12 (qcQ (qzQ D h 6) h p)) 0 0 Q := by
  intro j
  induction j with
  | zero => intro p h1 h2; omega
  | succ j ih =>
    intro p h1 h2
    refine J_w z6 (i := 18) (by decide) 124 ?_
    refine And.intro (fun cz20 => ?_) (fun cz20 => ?_)
    · -- 20 taken: nI 8 ≤ nI p
      have kz20 : 8 ≤ p := kle (a := 8) (b := p) rfl rfl (by omega) (by omega) cz20
      refine And.intro ⟨rfl, rfl, Nat.le_refl _, Nat.le_refl _⟩ ?_
      rw [show p = 8 by omega]
      exact hQ
    · -- 20 not: ¬ nI 8 ≤ nI p
      have kz20 : p < 8 := knle (a := 8) (b := p) rfl rfl (by omega) (by omega) cz20
      refine And.intro (DWo_0 hD) ?_
      rw [bput_0 (x := x) (by decide)]
      refine And.intro (fun cz23 => ?_) (fun cz23 => ?_)
      · -- 23 taken: (qcQ (qzQ D h 6) h p) 0 11 ≤ 0
        refine And.intro ⟨rfl, rfl, Nat.le_refl _, Nat.le_refl _⟩ ?_
        have ez9 := qcQ_n (h := h) (i := p) (show qzQ D h 6 0 11 ≤ 0 by rw [qcQ_r (by decide)] at cz23; exact cz23) (8 - p)
        rw [show p + (8 - p) = 8 by omega] at ez9
        rw [← ez9]
        exact hQ
      · -- 23 not: ¬ (qcQ (qzQ D h 6) h p) 0 11 ≤ 0
        refine And.intro (DWo_0 hD) (Exists.intro _ (And.intro (DWr_0_4 hD) ?_))
        refine And.intro (DWi_5 hD (vi rfl (by omega))) ?_
        rw [nI_clamp (show p < 2 ^ 31 by omega)]
        rw [bput_r (x := x) (f := 5) (by decide)]
        refine And.intro ⟨by omega, Nat.le_of_ble_eq_true rfl, Nat.le_refl _, Nat.le_refl _⟩ (And.intro (DWo_0 hD) ?_)
        refine C5 (m := (bput m x 12 (qcQ (qzQ D h 6) h p))) (p := p) hD (by omega) ?_
        rw [bput_r (D := (qcQ (qzQ D h 6) h p)) (f := 1) (by decide)]
        rw [bput_r (D := (qcQ (qzQ D h 6) h p)) (f := 5) (by decide)]
        rw [bput_r (D := (qcQ (qzQ D h 6) h p)) (f := 6) (by decide)]
        refine And.intro (fun cz32 => ?_) (fun cz32 => ?_)
        · -- 32 taken: stF ((qcQ (qzQ D h 6) h p) 1) ((qcQ (qzQ D h 6) h p) 5) ((qcQ (qzQ D h 6) h p) 6) p ((qcQ (qzQ D h 6) h p) 5 p) (nI h) = 0
          show Jj sc d 0 0 (mth 6) (pg P6 18).1 [some (.ref x), some (.int (nI h)), some (.int (nI p + nI 1))] [] (bput m x 12 (qcQ (qzQ D h 6) h p)) 0 0 Q
          rw [show nI p + nI 1 = nI (p + 1) from by simp only [nI_add, pk_mul]]
          have z := ih (p + 1) (by omega) (by omega)
          rw [qcQ_s] at z
          unfold qcS at z
          rw [if_neg cz23, if_pos cz32] at z
          exact z
        · -- 32 not: ¬ stF ((qcQ (qzQ D h 6) h p) 1) ((qcQ (qzQ D h 6) h p) 5) ((qcQ (qzQ D h 6) h p) 6) p ((qcQ (qzQ D h 6) h p) 5 p) (nI h) = 0
          have h0 := stF_e cz32
          have hq := hI p (by omega) (by have := h0.1; rw [qcQ_r (by decide), qzQ_r (by decide)] at this; exact this)
          have h5 := iR_e hq.2.1 (by decide)
          have ez5 : (qcQ (qzQ D h 6) h p) 5 p = nI (nv ((qcQ (qzQ D h 6) h p) 5 p)) ∧ (nv ((qcQ (qzQ D h 6) h p) 5 p)) < 6 := by rw [qcQ_r (by decide), qzQ_r (by decide)]; exact h5
          refine And.intro (DWo_0 hD) (Exists.intro _ (And.intro (DWr_0_10 hD) ?_))
          refine And.intro (DWo_0 hD) (Exists.intro _ (And.intro (DWr_0_4 hD) ?_))
          refine And.intro (DWi_5 hD (vi rfl (by omega))) ?_
          rw [nI_clamp (show p < 2 ^ 31 by omega)]
          rw [bput_r (x := x) (f := 5) (by decide)]
          rw [ez5.1]
          refine And.intro ⟨rfl, rfl⟩ ?_
          have ez44 : ((nI ((nv ((qcQ (qzQ D h 6) h p) 5 p)))) * nI 96) + nI h = nI (((nv ((qcQ (qzQ D h 6) h p) 5 p))) * 96 + h) := by simp only [nI_add, pk_mul]
          refine And.intro (DWi_11 hD (vi ez44 (by omega))) ?_
          rw [vc ez44 (by omega)]
          rw [bput_r (x := x) (f := 11) (by decide)]
          have ez48 : ((nI ((nv ((qcQ (qzQ D h 6) h p) 5 p)))) * nI 96) + nI h = nI (((nv ((qcQ (qzQ D h 6) h p) 5 p))) * 96 + h) := by simp only [nI_add, pk_mul]
          refine And.intro (DWi_11 hD (vi ez48 (by omega))) ?_
          rw [vc ez48 (by omega)]
          rw [show vp_nar .byte (((qcQ (qzQ D h 6) h p) 11 ((nv ((qcQ (qzQ D h 6) h p) 5 p)) * 96 + h)) + nI 1).toInt8.toInt32 = qnF ((qcQ (qzQ D h 6) h p) 11 ((nv ((qcQ (qzQ D h 6) h p) 5 p)) * 96 + h)) from rfl]
          rw [bput_u (x := x) (f := 11) (by decide)]
          show Jj sc d 0 0 (mth 6) (pg P6 18).1 [some (.ref x), some (.int (nI h)), some (.int (nI p + nI 1))] [] (bput m x 12 (ud (qcQ (qzQ D h 6) h p) 11 (((nv ((qcQ (qzQ D h 6) h p) 5 p))) * 96 + h) (qnF ((qcQ (qzQ D h 6) h p) 11 ((nv ((qcQ (qzQ D h 6) h p) 5 p)) * 96 + h))))) 0 0 Q
          rw [show nI p + nI 1 = nI (p + 1) from by simp only [nI_add, pk_mul]]
          have z := ih (p + 1) (by omega) (by omega)
          rw [qcQ_s] at z
          unfold qcS at z
          rw [if_neg cz23, if_neg cz32] at z
          exact z
theorem lq6a {sc : Nat × (Nat → Int32)} {d : Nat} {m : Mm} {Q : Option Value → Mm → Prop} {x : Nat} {D : Nat → Nat → Int32} (hD : DW m.2.2 x) {h np : Nat} (hd : 1 ≤ d) (hh : h ≤ 95) (hI : DI np D) (hQ : Q none (bput m x 12 (cqF D h)))  : ∀ (j g : Nat), g ≤ 6 → 6 + 1 ≤ g + j → Jj sc d 0 0 (mth 6) (pg P6 2).1 [some (.ref x), some (.int (nI h)), some (.int (nI g))] [] (bput m x 12 (qzQ D h g)) 0 0 Q := by
  intro j
  induction j with
  | zero => intro g h1 h2; omega
  | succ j ih =>
    intro g h1 h2
    refine J_w z6 (i := 2) (by decide) 124 ?_
    refine And.intro (fun cz4 => ?_) (fun cz4 => ?_)
    · -- 4 taken: nI 6 ≤ nI g
      have kz4 : 6 ≤ g := kle (a := 6) (b := g) rfl rfl (by omega) (by omega) cz4
      show Jj sc d 0 0 (mth 6) (pg P6 18).1 [some (.ref x), some (.int (nI h)), some (.int (nI 0))] [] (bput m x 12 (qzQ D h g)) 0 0 Q
      rw [show g = 6 by omega]
      exact lq6b hD hd hh hI hQ 9 0 (by decide) (by decide)
    · -- 4 not: ¬ nI 6 ≤ nI g
      have kz4 : g < 6 := knle (a := 6) (b := g) rfl rfl (by omega) (by omega) cz4
      refine And.intro (DWo_0 hD) (Exists.intro _ (And.intro (DWr_0_10 hD) ?_))
      have ez13 : (nI g * nI 96) + nI h = nI (g * 96 + h) := by simp only [nI_add, pk_mul]
      refine And.intro (DWi_11 hD (vi ez13 (by omega))) ?_
      rw [vc ez13 (by omega)]
      rw [show vp_nar .byte (nI 0) = nI 0 by decide]
      rw [bput_u (x := x) (f := 11) (by decide)]
      show Jj sc d 0 0 (mth 6) (pg P6 2).1 [some (.ref x), some (.int (nI h)), some (.int (nI g + nI 1))] [] (bput m x 12 (ud (qzQ D h g) 11 (g * 96 + h) (nI 0))) 0 0 Q
      rw [show nI g + nI 1 = nI (g + 1) from by simp only [nI_add, pk_mul]]
      have z := ih (g + 1) (by omega) (by omega)
      rw [qzQ_s] at z
      exact z
theorem D6 {d : Nat} {m : Mm} {Q : Option Value → Mm → Prop} {x : Nat} {D : Nat → Nat → Int32} (hD : DW m.2.2 x) {h np : Nat} (hd : 1 ≤ d) (hh : h ≤ 95) (hI : DI np D) (hQ : Q none (bput m x 12 (cqF D h))) : Cc d 0 0 6 [.ref x, .int (nI h)] (bput m x 12 D) Q := by
  refine ent (n := 124) z6 (by decide) rfl (by decide) (Nat.le_of_ble_eq_true rfl) (fun sc => ?_)
  show Jj sc d 0 0 (mth 6) (pg P6 2).1 [some (.ref x), some (.int (nI h)), some (.int (nI 0))] [] (bput m x 12 D) 0 0 Q
  exact lq6a hD hd hh hI hQ 7 0 (by decide) (by decide)
