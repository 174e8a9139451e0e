/-! ===== run ===== -/
abbrev inP (Λ Ψ : Nat → Nat → Int32) (g : Nat) (h : Int32) : Prop := ¬ (Λ 3 g = nI 3 ∨ bq (Ψ 0 1) (nI g)) ∧ Λ 5 g ≤ h ∧ h < Λ 6 g
def hm (h : Nat) : Int32 := nI h - nI h / nI 24 * nI 24
noncomputable def gdS (Λ Ψ : Nat → Nat → Int32) (h : Nat) : Nat → (Nat → Nat → Int32) → Nat → Nat → Int32 := fun g D => if D 0 11 ≤ 0 then D else if bi (inP Λ Ψ g (hm h)) = 0 then D else seQ Λ Ψ D g h (nv (Λ 4 g))
noncomputable def gdQ (Λ Ψ D : Nat → Nat → Int32) (h g : Nat) : Nat → Nat → Int32 := fo (gdS Λ Ψ h) D g
noncomputable def hrS (Λ Ψ : Nat → Nat → Int32) (n : Nat) : Nat → (Nat → Nat → Int32) → Nat → Nat → Int32 := fun h D => cqF (gdQ Λ Ψ D h n) h
noncomputable def hrQ (Λ Ψ : Nat → Nat → Int32) (n : Nat) (D : Nat → Nat → Int32) (h : Nat) : Nat → Nat → Int32 := fo (hrS Λ Ψ n) D h
def wfS : Nat → (Nat → Nat → Int32) → Nat → Nat → Int32 := fun p D => if D 1 p = nI 2 then ud D 7 p (D 7 p + (nI 96 - D 6 p)) else D
def wfQ (D : Nat → Nat → Int32) (p : Nat) : Nat → Nat → Int32 := fo wfS D p
noncomputable def runF (Λ Ψ : Nat → Nat → Int32) (n np : Nat) (l w : Int32) (g : Nat) (D : Nat → Nat → Int32) : Nat → Nat → Int32 := wfQ (hrQ Λ Ψ n (beQ Λ np l w g D 8) 96) 8
theorem gdQ_s {Λ Ψ D : Nat → Nat → Int32} {h g : Nat} : gdQ Λ Ψ D h (g + 1) = gdS Λ Ψ h g (gdQ Λ Ψ D h g) := rfl
theorem hrQ_s {Λ Ψ : Nat → Nat → Int32} {n : Nat} {D : Nat → Nat → Int32} {h : Nat} : hrQ Λ Ψ n D (h + 1) = hrS Λ Ψ n h (hrQ Λ Ψ n D h) := fo_s (f := hrS Λ Ψ n) (z := D) (n := h)
theorem hrS_e {Λ Ψ : Nat → Nat → Int32} {n : Nat} {D : Nat → Nat → Int32} {h : Nat} : hrS Λ Ψ n h D = cqF (gdQ Λ Ψ D h n) h := rfl
theorem hrQ_0 {Λ Ψ : Nat → Nat → Int32} {n : Nat} {D : Nat → Nat → Int32} : hrQ Λ Ψ n D 0 = D := rfl
theorem gdQ_0 {Λ Ψ D : Nat → Nat → Int32} {h : Nat} : gdQ Λ Ψ D h 0 = D := rfl
theorem wfQ_0 {D : Nat → Nat → Int32} : wfQ D 0 = D := rfl
theorem wfQ_s {D : Nat → Nat → Int32} {p : Nat} : wfQ D (p + 1) = wfS p (wfQ D p) := rfl
theorem gdQ_n {Λ Ψ D : Nat → Nat → Int32} {h i : Nat} (hn : gdQ Λ Ψ D h i 0 11 ≤ 0) : ∀ n, gdQ Λ Ψ D h (i + n) = gdQ Λ Ψ D h i
  | 0 => rfl
  | n + 1 => by
    rw [show i + (n + 1) = (i + n) + 1 from rfl, gdQ_s, gdQ_n hn n]
    unfold gdS
    rw [if_pos hn]
theorem DI_r {np : Nat} {D D' : Nat → Nat → Int32} (h : DI np D) (h1 : D' 1 = D 1) (h5 : D' 5 = D 5) (h6 : D' 6 = D 6) (h8 : D' 8 = D 8) : DI np D' := by
  intro p hp
  rw [h1, h5, h6, h8]
  exact h p hp
theorem gd_DI {Λ Ψ D : Nat → Nat → Int32} {n np h : Nat} (hJ : JE Λ Ψ n np) (hn6 : n ≤ 6) (hI : DI np D) (hh : h ≤ 95) : ∀ g, g ≤ n → DI np (gdQ Λ Ψ D h g)
  | 0, _ => hI
  | g + 1, hg => by
    rw [gdQ_s]
    unfold gdS
    split
    · exact gd_DI hJ hn6 hI hh g (by omega)
    · split
      · exact gd_DI hJ hn6 hI hh g (by omega)
      · exact se_DI hJ (gd_DI hJ hn6 hI hh g (by omega)) (by omega) hh _
theorem hr_DI {Λ Ψ D : Nat → Nat → Int32} {n np : Nat} (hJ : JE Λ Ψ n np) (hn6 : n ≤ 6) (hI : DI np D) : ∀ h, h ≤ 96 → DI np (hrQ Λ Ψ n D h)
  | 0, _ => hI
  | h + 1, hh => by
    rw [hrQ_s, hrS_e]
    exact DI_r (gd_DI hJ hn6 (hr_DI hJ hn6 hI h (by omega)) (by omega) n (Nat.le_refl _)) (cqF_r (by decide)) (cqF_r (by decide)) (cqF_r (by decide)) (cqF_r (by decide))
theorem be_DI {Λ Ψ D : Nat → Nat → Int32} {n np g : Nat} {l w : Int32} (hJ : JE Λ Ψ n np) (hg : ¬ w = -nI 1 → g < 6) : ∀ i, i ≤ 8 → ∀ p, p < i → beQ Λ np l w g D i 1 p = nI 2 → p < np ∧ iR (beQ Λ np l w g D i 5 p) 6 ∧ ∃ c k, beQ Λ np l w g D i 6 p = nI c ∧ beQ Λ np l w g D i 8 p = nI k ∧ k ≤ c + 1 ∧ c ≤ 96
  | 0, _, p, hp, _ => absurd hp (by omega)
  | i + 1, hi, p, hp, h1 => by
    have ih := be_DI (D := D) (l := l) hJ hg i (by omega) p
    rw [beQ_s] at h1 ⊢
    unfold beS at h1 ⊢
    by_cases hq : prP np w i
    · rw [if_pos hq] at h1 ⊢
      change upd (beQ Λ np l w g D i 1) i (nI 2) p = nI 2 at h1
      change p < np ∧ iR (upd (beQ Λ np l w g D i 5) i (nI (beG Λ w g i)) p) 6 ∧ ∃ c k, upd (beQ Λ np l w g D i 6) i (Λ 9 (i * 7 + 4)) p = nI c ∧ upd (upd (beQ Λ np l w g D i 8) i (nI 0)) i (nI 0 + nI 1) p = nI k ∧ k ≤ c + 1 ∧ c ≤ 96
      by_cases e : p = i
      · rw [e, upd_e, upd_e, upd_e]
        have h3 := iR_e (hJ.1 i hq.1).2.2.1 (by decide)
        have h4 := iR_e (hJ.1 i hq.1).2.2.2 (by decide)
        refine ⟨hq.1, ⟨_, ?_, rfl⟩, _, 1, h4.1, nI_add 0 1, by omega, by omega⟩
        unfold beG
        split
        · exact h3.2
        · rename_i h9
          exact hg h9
      · rw [upd_o e] at h1
        rw [upd_o e, upd_o e, upd_o e, upd_o e]
        exact ih (by omega) h1
    · rw [if_neg hq] at h1 ⊢
      change upd (beQ Λ np l w g D i 1) i (nI 3) p = nI 2 at h1
      change p < np ∧ iR (beQ Λ np l w g D i 5 p) 6 ∧ ∃ c k, beQ Λ np l w g D i 6 p = nI c ∧ upd (beQ Λ np l w g D i 8) i (nI 0) p = nI k ∧ k ≤ c + 1 ∧ c ≤ 96
      by_cases e : p = i
      · rw [e, upd_e] at h1
        exact absurd h1 (by decide)
      · rw [upd_o e] at h1 ⊢
        exact ih (by omega) h1
theorem lq1c {sc : Nat × (Nat → Int32)} {d : Nat} {m : Mm} {Q : Option Value → Mm → Prop} {x : Nat} {D : Nat → Nat → Int32} (hD : DW m.2.2 x) {a b : Nat} (hL : LW m.2.2 a) (hB : SW m.2.2 b) (hax : a + 19 ≤ x) (hbx : b + 4 ≤ x) {n np g0 : Nat} {l w gi : Int32} (hd : 4 ≤ d) (hJ : JE (lam m a) (lam m b) n np) (hn : mI m (a + 1) 4 = nI n) (hn6 : n ≤ 6) (hnp : mI m (a + 1) 8 = nI np) (hnp8 : np ≤ 8) (hgi : ¬ w = -nI 1 → gi = nI g0) (hg0 : ¬ w = -nI 1 → g0 < 6) (hQ : Q none (bput m x 12 (runF (lam m a) (lam m b) n np l w g0 D)))  : ∀ (j p : Nat), p ≤ 8 → 8 + 1 ≤ p + j → Jj sc d 0 0 (mth 1) (pg P1 43).1 [some (.ref x), some (.ref a), some (.ref b), some (.int l), some (.int w), some (.int gi), some (.int (nI p)), none] [] (bput m x 12 (wfQ (hrQ (lam m a) (lam m b) n (beQ (lam m a) np l w g0 D 8) 96) p)) 0 0 Q := by
  intro j
  induction j with
  | zero => intro p h1 h2; omega
  | succ j ih =>
    intro p h1 h2
    refine J_w z1 (i := 43) (by decide) 156 ?_
    refine And.intro (fun cz45 => ?_) (fun cz45 => ?_)
    · -- 45 taken: nI 8 ≤ nI p
      have kz45 : 8 ≤ p := kle (a := 8) (b := p) rfl rfl (by omega) (by omega) cz45
      refine And.intro ⟨rfl, rfl, Nat.le_refl _, Nat.le_refl _⟩ ?_
      rw [show p = 8 by omega]
      exact hQ
    · -- 45 not: ¬ nI 8 ≤ nI p
      have kz45 : p < 8 := knle (a := 8) (b := p) rfl rfl (by omega) (by omega) cz45
      refine And.intro (DWo_0 hD) (Exists.intro _ (And.intro (DWr_0_0 hD) ?_))
      refine And.intro (DWi_1 hD (vi rfl (by omega))) ?_
      rw [nI_clamp (show p < 2 ^ 31 by omega)]
      rw [bput_r (x := x) (f := 1) (by decide)]
      refine And.intro (fun cz51 => ?_) (fun cz51 => ?_)
      · -- 51 taken: ¬ (wfQ (hrQ (lam m a) (lam m b) n (beQ (lam m a) np l w g0 D 8) 96) p) 1 p = nI 2
        show Jj sc d 0 0 (mth 1) (pg P1 43).1 [some (.ref x), some (.ref a), some (.ref b), some (.int l), some (.int w), some (.int gi), some (.int (nI p + nI 1)), none] [] (bput m x 12 (wfQ (hrQ (lam m a) (lam m b) n (beQ (lam m a) np l w g0 D 8) 96) p)) 0 0 Q
        rw [show nI p + nI 1 = nI (p + 1) from by simp only [nI_add, pk_mul]]
        have z := ih (p + 1) (by omega) (by omega)
        rw [wfQ_s] at z
        unfold wfS at z
        rw [if_neg cz51] at z
        exact z
      · -- 51 not: (wfQ (hrQ (lam m a) (lam m b) n (beQ (lam m a) np l w g0 D 8) 96) p) 1 p = nI 2
        refine And.intro (DWo_0 hD) (Exists.intro _ (And.intro (DWr_0_6 hD) ?_))
        refine And.intro ⟨rfl, rfl⟩ ?_
        refine And.intro (DWi_7 hD (vi rfl (by omega))) ?_
        rw [nI_clamp (show p < 2 ^ 31 by omega)]
        rw [bput_r (x := x) (f := 7) (by decide)]
        refine And.intro (DWo_0 hD) (Exists.intro _ (And.intro (DWr_0_5 hD) ?_))
        refine And.intro (DWi_6 hD (vi rfl (by omega))) ?_
        rw [nI_clamp (show p < 2 ^ 31 by omega)]
        rw [bput_r (x := x) (f := 6) (by decide)]
        refine And.intro (DWi_7 hD (vi rfl (by omega))) ?_
        rw [nI_clamp (show p < 2 ^ 31 by omega)]
        rw [bput_u (x := x) (f := 7) (by decide)]
        show Jj sc d 0 0 (mth 1) (pg P1 43).1 [some (.ref x), some (.ref a), some (.ref b), some (.int l), some (.int w), some (.int gi), some (.int (nI p + nI 1)), none] [] (bput m x 12 (ud (wfQ (hrQ (lam m a) (lam m b) n (beQ (lam m a) np l w g0 D 8) 96) p) 7 p (((wfQ (hrQ (lam m a) (lam m b) n (beQ (lam m a) np l w g0 D 8) 96) p) 7 p) + (nI 96 - ((wfQ (hrQ (lam m a) (lam m b) n (beQ (lam m a) np l w g0 D 8) 96) p) 6 p))))) 0 0 Q
        rw [show nI p + nI 1 = nI (p + 1) from by simp only [nI_add, pk_mul]]
        have z := ih (p + 1) (by omega) (by omega)
        rw [wfQ_s] at z
        unfold wfS at z
        rw [if_pos cz51] at z
        exact z
theorem lq1b {sc : Nat × (Nat → Int32)} {d : Nat} {m : Mm} {Q : Option Value → Mm → Prop} {x : Nat} {D : Nat → Nat → Int32} (hD : DW m.2.2 x) {a b : Nat} (hL : LW m.2.2 a) (hB : SW m.2.2 b) (hax : a + 19 ≤ x) (hbx : b + 4 ≤ x) {n np g0 : Nat} {l w gi : Int32} (hd : 4 ≤ d) (hJ : JE (lam m a) (lam m b) n np) (hn : mI m (a + 1) 4 = nI n) (hn6 : n ≤ 6) (hnp : mI m (a + 1) 8 = nI np) (hnp8 : np ≤ 8) (hgi : ¬ w = -nI 1 → gi = nI g0) (hg0 : ¬ w = -nI 1 → g0 < 6) {E : Nat → Nat → Int32} {h : Nat} (hE : DI np E) (hh : h ≤ 95) (hk : Jj sc d 0 0 (mth 1) (pg P1 8).1 [some (.ref x), some (.ref a), some (.ref b), some (.int l), some (.int w), some (.int gi), some (.int (nI (h + 1))), none] [] (bput m x 12 (cqF (gdQ (lam m a) (lam m b) E h n) h)) 0 0 Q)  : ∀ (j g : Nat), g ≤ n → n + 1 ≤ g + j → Jj sc d 0 0 (mth 1) (pg P1 13).1 [some (.ref x), some (.ref a), some (.ref b), some (.int l), some (.int w), some (.int gi), some (.int (nI h)), some (.int (nI g))] [] (bput m x 12 (gdQ (lam m a) (lam m b) E h g)) 0 0 Q := by
  intro j
  induction j with
  | zero => intro g h1 h2; omega
  | succ j ih =>
    intro g h1 h2
    refine J_w z1 (i := 13) (by decide) 156 ?_
    refine And.intro ⟨by omega, Nat.le_of_ble_eq_true rfl, Nat.le_refl _, Nat.le_refl _⟩ (And.intro (LWo_0 hL) ?_)
    refine C23 (m := (bput m x 12 (gdQ (lam m a) (lam m b) E h g))) hL ?_
    rw [bput_lo (m := m) (x := x) (n := 12) (D := (gdQ (lam m a) (lam m b) E h g)) (b := (a + 1)) (by omega)]
    rw [hn]
    refine And.intro (fun cz16 => ?_) (fun cz16 => ?_)
    · -- 16 taken: nI n ≤ nI g
      have kz16 : n ≤ g := kle (a := n) (b := g) rfl rfl (by omega) (by omega) cz16
      have hI9 := gd_DI hJ hn6 hE hh g (by omega)
      refine And.intro ⟨by omega, Nat.le_of_ble_eq_true rfl, Nat.le_refl _, Nat.le_refl _⟩ (And.intro (DWo_0 hD) ?_)
      refine D6 (h := h) hD (by omega) (by omega) hI9 ?_
      show Jj sc d 0 0 (mth 1) (pg P1 8).1 [some (.ref x), some (.ref a), some (.ref b), some (.int l), some (.int w), some (.int gi), some (.int (nI h + nI 1)), some (.int (nI g))] [] (bput m x 12 (cqF (gdQ (lam m a) (lam m b) E h g) h)) 0 0 Q
      rw [show nI h + nI 1 = nI (h + 1) from by simp only [nI_add, pk_mul]]
      refine J_wk (L' := [some (.ref x), some (.ref a), some (.ref b), some (.int l), some (.int w), some (.int gi), some (.int (nI (h + 1))), none]) ⟨rfl, rfl, rfl, rfl, rfl, rfl, rfl, trivial⟩ ?_
      rw [show g = n by omega]
      exact hk
    · -- 16 not: ¬ nI n ≤ nI g
      have kz16 : g < n := knle (a := n) (b := g) rfl rfl (by omega) (by omega) cz16
      refine And.intro (DWo_0 hD) ?_
      rw [bput_0 (x := x) (by decide)]
      refine And.intro (fun cz19 => ?_) (fun cz19 => ?_)
      · -- 19 taken: (gdQ (lam m a) (lam m b) E h g) 0 11 ≤ 0
        have hI9 := gd_DI hJ hn6 hE hh g (by omega)
        refine And.intro ⟨by omega, Nat.le_of_ble_eq_true rfl, Nat.le_refl _, Nat.le_refl _⟩ (And.intro (DWo_0 hD) ?_)
        refine D6 (h := h) hD (by omega) (by omega) hI9 ?_
        show Jj sc d 0 0 (mth 1) (pg P1 8).1 [some (.ref x), some (.ref a), some (.ref b), some (.int l), some (.int w), some (.int gi), some (.int (nI h + nI 1)), some (.int (nI g))] [] (bput m x 12 (cqF (gdQ (lam m a) (lam m b) E h g) h)) 0 0 Q
        rw [show nI h + nI 1 = nI (h + 1) from by simp only [nI_add, pk_mul]]
        refine J_wk (L' := [some (.ref x), some (.ref a), some (.ref b), some (.int l), some (.int w), some (.int gi), some (.int (nI (h + 1))), none]) ⟨rfl, rfl, rfl, rfl, rfl, rfl, rfl, trivial⟩ ?_
        have ez9 := gdQ_n (i := g) cz19 (n - g)
        rw [show g + (n - g) = n by omega] at ez9
        rw [← ez9]
        exact hk
      · -- 19 not: ¬ (gdQ (lam m a) (lam m b) E h g) 0 11 ≤ 0
        refine And.intro (by decide) ?_
        refine And.intro ⟨by omega, Nat.le_of_ble_eq_true rfl, Nat.le_refl _, Nat.le_refl _⟩ (And.intro (LWo_0 hL) ?_)
        refine C35 (m := (bput m x 12 (gdQ (lam m a) (lam m b) E h g))) (g := g) (by omega) hL hB (by omega) ?_
        rw [bput_lo (b := a + 3) (by omega), bput_lo (b := b) (by omega), bput_lo (b := a + 5) (by omega), bput_lo (b := a + 6) (by omega)]
        refine And.intro (fun cz27 => ?_) (fun cz27 => ?_)
        · -- 27 taken: bi (inP (lam m a) (lam m b) g (hm h)) = 0
          show Jj sc d 0 0 (mth 1) (pg P1 13).1 [some (.ref x), some (.ref a), some (.ref b), some (.int l), some (.int w), some (.int gi), some (.int (nI h)), some (.int (nI g + nI 1))] [] (bput m x 12 (gdQ (lam m a) (lam m b) E h g)) 0 0 Q
          rw [show nI g + nI 1 = nI (g + 1) from by simp only [nI_add, pk_mul]]
          have z := ih (g + 1) (by omega) (by omega)
          rw [gdQ_s] at z
          unfold gdS at z
          rw [if_neg cz19, if_pos (show bi (inP (lam m a) (lam m b) g (hm h)) = 0 from cz27)] at z
          exact z
        · -- 27 not: ¬ bi (inP (lam m a) (lam m b) g (hm h)) = 0
          refine And.intro ⟨by omega, Nat.le_of_ble_eq_true rfl, Nat.le_refl _, Nat.le_refl _⟩ (And.intro (DWo_0 hD) ?_)
          have h4 := iR_e (hJ.2.2.1 g (by omega)) (by decide)
          refine D7 (n1 := nv (lam m a 4 g)) hD hL hB hax hbx (by omega) hJ (gd_DI hJ hn6 hE hh g (by omega)) (by omega) (by omega) h4.1 h4.2 ?_
          show Jj sc d 0 0 (mth 1) (pg P1 13).1 [some (.ref x), some (.ref a), some (.ref b), some (.int l), some (.int w), some (.int gi), some (.int (nI h)), some (.int (nI g + nI 1))] [] (bput m x 12 (seQ (lam m a) (lam m b) (gdQ (lam m a) (lam m b) E h g) g h (nv (lam m a 4 g)))) 0 0 Q
          rw [show nI g + nI 1 = nI (g + 1) from by simp only [nI_add, pk_mul]]
          have z := ih (g + 1) (by omega) (by omega)
          rw [gdQ_s] at z
          unfold gdS at z
          rw [if_neg cz19, if_neg (show ¬ bi (inP (lam m a) (lam m b) g (hm h)) = 0 from cz27)] at z
          exact z
theorem lq1a {sc : Nat × (Nat → Int32)} {d : Nat} {m : Mm} {Q : Option Value → Mm → Prop} {x : Nat} {D : Nat → Nat → Int32} (hD : DW m.2.2 x) {a b : Nat} (hL : LW m.2.2 a) (hB : SW m.2.2 b) (hax : a + 19 ≤ x) (hbx : b + 4 ≤ x) {n np g0 : Nat} {l w gi : Int32} (hd : 4 ≤ d) (hJ : JE (lam m a) (lam m b) n np) (hn : mI m (a + 1) 4 = nI n) (hn6 : n ≤ 6) (hnp : mI m (a + 1) 8 = nI np) (hnp8 : np ≤ 8) (hgi : ¬ w = -nI 1 → gi = nI g0) (hg0 : ¬ w = -nI 1 → g0 < 6) (hQ : Q none (bput m x 12 (runF (lam m a) (lam m b) n np l w g0 D)))  : ∀ (j h : Nat), h ≤ 96 → 96 + 1 ≤ h + j → Jj sc d 0 0 (mth 1) (pg P1 8).1 [some (.ref x), some (.ref a), some (.ref b), some (.int l), some (.int w), some (.int gi), some (.int (nI h)), none] [] (bput m x 12 (hrQ (lam m a) (lam m b) n (beQ (lam m a) np l w g0 D 8) h)) 0 0 Q := by
  intro j
  induction j with
  | zero => intro h h1 h2; omega
  | succ j ih =>
    intro h h1 h2
    refine J_w z1 (i := 8) (by decide) 156 ?_
    refine And.intro (fun cz10 => ?_) (fun cz10 => ?_)
    · -- 10 taken: nI 96 ≤ nI h
      have kz10 : 96 ≤ h := kle (a := 96) (b := h) rfl rfl (by omega) (by omega) cz10
      show Jj sc d 0 0 (mth 1) (pg P1 43).1 [some (.ref x), some (.ref a), some (.ref b), some (.int l), some (.int w), some (.int gi), some (.int (nI 0)), none] [] (bput m x 12 (hrQ (lam m a) (lam m b) n (beQ (lam m a) np l w g0 D 8) h)) 0 0 Q
      rw [show h = 96 by omega]
      have z2 := lq1c (sc := sc) hD hL hB hax hbx hd hJ hn hn6 hnp hnp8 hgi hg0 hQ 9 0 (by decide) (by decide)
      rw [wfQ_0] at z2
      exact z2
    · -- 10 not: ¬ nI 96 ≤ nI h
      have kz10 : h < 96 := knle (a := 96) (b := h) rfl rfl (by omega) (by omega) cz10
      show Jj sc d 0 0 (mth 1) (pg P1 13).1 [some (.ref x), some (.ref a), some (.ref b), some (.int l), some (.int w), some (.int gi), some (.int (nI h)), some (.int (nI 0))] [] (bput m x 12 (hrQ (lam m a) (lam m b) n (beQ (lam m a) np l w g0 D 8) h)) 0 0 Q
      have z := ih (h + 1) (by omega) (by omega)
      rw [hrQ_s, hrS_e] at z
      have z2 := lq1b (sc := sc) (D := D) hD hL hB hax hbx hd hJ hn hn6 hnp hnp8 hgi hg0 (hr_DI hJ hn6 (fun p hp => be_DI hJ hg0 8 (Nat.le_refl _) p hp) h (by omega)) (by omega) z (n + 1) 0 (Nat.zero_le _) (by omega)
      rw [gdQ_0] at z2
      exact z2
theorem D1 {d : Nat} {m : Mm} {Q : Option Value → Mm → Prop} {x : Nat} {D : Nat → Nat → Int32} (hD : DW m.2.2 x) {a b : Nat} (hL : LW m.2.2 a) (hB : SW m.2.2 b) (hax : a + 19 ≤ x) (hbx : b + 4 ≤ x) {n np g0 : Nat} {l w gi : Int32} (hd : 4 ≤ d) (hJ : JE (lam m a) (lam m b) n np) (hn : mI m (a + 1) 4 = nI n) (hn6 : n ≤ 6) (hnp : mI m (a + 1) 8 = nI np) (hnp8 : np ≤ 8) (hgi : ¬ w = -nI 1 → gi = nI g0) (hg0 : ¬ w = -nI 1 → g0 < 6) (hQ : Q none (bput m x 12 (runF (lam m a) (lam m b) n np l w g0 D)))  : Cc d 0 0 1 [.ref x, .ref a, .ref b, .int l, .int w, .int gi] (bput m x 12 D) Q := by
  refine ent (n := 156) z1 (by decide) rfl (by decide) (Nat.le_of_ble_eq_true rfl) (fun sc => ?_)
  refine And.intro ⟨by omega, Nat.le_of_ble_eq_true rfl, Nat.le_refl _, Nat.le_refl _⟩ (And.intro (DWo_0 hD) ?_)
  refine D2 (b := b) (n := n) (np := np) (g := g0) hD hL hax (by omega) hJ hnp hnp8 hgi hg0 ?_
  show Jj sc d 0 0 (mth 1) (pg P1 8).1 [some (.ref x), some (.ref a), some (.ref b), some (.int l), some (.int w), some (.int gi), some (.int (nI 0)), none] [] (bput m x 12 (beQ (lam m a) np l w g0 D 8)) 0 0 Q
  have z2 := lq1a (sc := sc) hD hL hB hax hbx hd hJ hn hn6 hnp hnp8 hgi hg0 hQ 97 0 (by decide) (by decide)
  rw [hrQ_0] at z2
  exact z2
