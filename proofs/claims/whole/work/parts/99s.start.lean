def TRf (m m9 : Mm) : Prop := m9.2.2 = m.2.2 ∧ ∀ r, ¬ (124 ≤ r ∧ r < 136) → mI m9 r = mI m r
theorem TRf_r {m : Mm} : TRf m m := ⟨rfl, fun _ _ => rfl⟩
theorem TRf_t {m m9 m8 : Mm} (h : TRf m m9) (g : TRf m9 m8) : TRf m m8 := ⟨g.1.trans h.1, fun r hr => (g.2 r hr).trans (h.2 r hr)⟩
def gaV (R : Nat → Nat → Int32) (p : Nat) : Int32 := if R 1 p = 0 then R 2 p else -nI 2
def bsS (V : Nat → Int32) : Nat → Int32 × Int32 → Int32 × Int32 := fun g y => if V g = -nI 2 then y else if y.2 ≤ V g then y else (nI g, V g)
def bsQ (V : Nat → Int32) (g : Nat) : Int32 × Int32 := fo (bsS V) (-nI 2, nI 96) g
theorem bs_s {V : Nat → Int32} {g : Nat} {x y : Int32} (h : (x, y) = bsQ V g) : bsQ V (g + 1) = if V g = -nI 2 then (x, y) else if y ≤ V g then (x, y) else (nI g, V g) := by
  rw [show bsQ V (g + 1) = bsS V g (bsQ V g) from fo_s, ← h]
  rfl
theorem bs_n {V : Nat → Int32} {g : Nat} {v x y : Int32} (h : (x, y) = bsQ V g) : bsQ (upd V g v) (g + 1) = if v = -nI 2 then (x, y) else if y ≤ v then (x, y) else (nI g, v) := by
  have e : bsQ (upd V g v) g = bsQ V g := by
    unfold bsQ
    refine fo_c (fun i hi y => ?_)
    unfold bsS
    rw [upd_o (by omega)]
  rw [bs_s (x := x) (y := y) (by rw [e]; exact h), upd_e]
theorem JE_19 {Λ Ψ P R : Nat → Nat → Int32} {n np : Nat} (h : ∀ f, f < 19 → P f = Λ f) (hg : ∀ f, f < 4 → R f = Ψ f) (hJ : JE Λ Ψ n np) : JE P R n np := by
  unfold JE at hJ ⊢
  rw [h 9 (by decide), h 2 (by decide), h 4 (by decide), hg 2 (by decide)]
  exact hJ
theorem C189 {d : Nat} {m : Mm} {Q : Option Value → Mm → Prop} {a n np p : Nat} {Λ Ψ : Nat → Nat → Int32} (hd : 6 ≤ d) (hW : Wd m.2.2) (ha : va_rf (mR m 0 3) = .ref a) (hL : LW m.2.2 a) (hab : a = 1 ∨ a = 93) (hΛ : ∀ f, f < 19 → mI m (a + f) = Λ f) (hΨ : ∀ f, f < 4 → mI m (20 + f) = Ψ f) (hJ : JE Λ Ψ n np) (hn : Λ 1 4 = nI n) (hn6 : n ≤ 6) (hnp : Λ 1 8 = nI np) (hnp8 : np ≤ 8) (hp : p < np) {g : Nat} (hg : g < 6) (hQ : ∀ m9 D, TRf m m9 → Q (some (.int (gaV (runF Λ Ψ n np (Λ 0 2) (nI p) g D) p))) m9)  : Cc d 0 0 189 [.ref 0, .int (nI p), .int (nI g)] m Q := by
  refine ent (n := 72) z189 (by decide) rfl (by decide) (Nat.le_of_ble_eq_true rfl) (fun sc => ?_)
  refine And.intro (Wdo_0 hW) (Exists.intro _ (And.intro (Wdr_0_8 hW) ?_))
  refine And.intro (Wdo_0 hW) (Exists.intro _ (And.intro ha ?_))
  refine And.intro (Wdo_0 hW) (Exists.intro _ (And.intro (Wdr_0_4 hW) ?_))
  refine And.intro (Wdo_0 hW) (Exists.intro _ (And.intro ha ?_))
  refine And.intro (LWo_0 hL) ?_
  refine And.intro ⟨by omega, Nat.le_of_ble_eq_true rfl, Nat.le_refl _, Nat.le_refl _⟩ (And.intro (DWo_0 (Wd_D2 hW)) ?_)
  have hpp := (bput_self (m := m) (x := 124) (n := 12)).symm
  generalize (fun f => mI m (124 + f)) = DD at hpp
  rw [hpp]
  rw [show mI (bput m 124 12 DD) a 2 = mI m a 2 from by rw [bput_lo (by omega)]]
  refine D1 (x := 124) (n := n) (np := np) (g0 := g) (a := a) (b := 20) (Wd_D2 hW) hL (Wd_S hW) (by omega) (by omega) (by omega) (JE_19 hΛ hΨ hJ) (by rw [hΛ 1 (by decide)]; exact hn) hn6 (by rw [hΛ 1 (by decide)]; exact hnp) hnp8 (fun _ => rfl) (fun _ => hg) ?_
  clear hpp
  have po : ∀ r, ¬ (124 ≤ r ∧ r < 136) → mI (bput m 124 12 (runF (lam m a) (lam m 20) n np (mI m a 2) (nI p) g DD)) r = mI m r := fun r hr => by
    rcases Nat.lt_or_ge r 124 with z9 | z9
    · exact bput_lo (by omega)
    · exact bput_hi (by omega)
  have pr : ∀ f, f < 12 → mI (bput m 124 12 (runF (lam m a) (lam m 20) n np (mI m a 2) (nI p) g DD)) (124 + f) = (runF (lam m a) (lam m 20) n np (mI m a 2) (nI p) g DD) f := fun f hf => bput_r hf
  have a22 : (bput m 124 12 (runF (lam m a) (lam m 20) n np (mI m a 2) (nI p) g DD)).2.2 = m.2.2 := bput_22
  generalize bput m 124 12 (runF (lam m a) (lam m 20) n np (mI m a 2) (nI p) g DD) = m9 at po pr a22 ⊢
  have hQ9 := hQ m9 DD ⟨a22, po⟩
  rw [← runF_19 (P := lam m a) (R := lam m 20) (Λ := Λ) (Ψ := Ψ) hΛ hΨ, ← congrFun (hΛ 0 (by decide)) 2] at hQ9
  generalize (runF (lam m a) (lam m 20) n np (mI m (a + 0) 2) (nI p) g DD) = RR at pr hQ9
  have hW0 := hW
  have hW : Wd m9.2.2 := by rw [a22]; exact hW0
  refine And.intro (Wdo_0 hW) (Exists.intro _ (And.intro (Wdr_0_8 hW) ?_))
  refine And.intro (DWo_0 (Wd_D2 hW)) (Exists.intro _ (And.intro (DWr_0_0 (Wd_D2 hW)) ?_))
  refine And.intro (DWi_1 (Wd_D2 hW) (vi rfl (by omega))) ?_
  rw [nI_clamp (show p < 2 ^ 31 by omega)]
  rw [congrFun (pr 1 (by decide)) p]
  refine And.intro (fun cz17 => ?_) (fun cz17 => ?_)
  · -- 17 taken: ¬ RR 1 p = 0
    refine And.intro ⟨rfl, trivial, Nat.le_refl _, Nat.le_refl _⟩ ?_
    unfold gaV at hQ9
    rw [if_neg cz17] at hQ9
    exact hQ9
  · -- 17 not: RR 1 p = 0
    refine And.intro (Wdo_0 hW) (Exists.intro _ (And.intro (Wdr_0_8 hW) ?_))
    refine And.intro (DWo_0 (Wd_D2 hW)) (Exists.intro _ (And.intro (DWr_0_1 (Wd_D2 hW)) ?_))
    refine And.intro (DWi_2 (Wd_D2 hW) (vi rfl (by omega))) ?_
    rw [nI_clamp (show p < 2 ^ 31 by omega)]
    rw [congrFun (pr 2 (by decide)) p]
    refine And.intro ⟨rfl, trivial, Nat.le_refl _, Nat.le_refl _⟩ ?_
    unfold gaV at hQ9
    rw [if_pos cz17] at hQ9
    exact hQ9
theorem lbs {sc : Nat × (Nat → Int32)} {d : Nat} {m : Mm} {Q : Option Value → Mm → Prop} {a n np p : Nat} {Λ Ψ : Nat → Nat → Int32} (hd : 7 ≤ d) (hW : Wd m.2.2) (ha : va_rf (mR m 0 3) = .ref a) (hL : LW m.2.2 a) (hab : a = 1 ∨ a = 93) (hΛ : ∀ f, f < 19 → mI m (a + f) = Λ f) (hΨ : ∀ f, f < 4 → mI m (20 + f) = Ψ f) (hJ : JE Λ Ψ n np) (hn : Λ 1 4 = nI n) (hn6 : n ≤ 6) (hnp : Λ 1 8 = nI np) (hnp8 : np ≤ 8) (hp : p < np) (hQ : ∀ m9 V, TRf m m9 → (∀ i, i < n → ∃ D, V i = gaV (runF Λ Ψ n np (Λ 0 2) (nI p) i D) p) → Q (some (.int (bsQ V n).1)) m9)  : ∀ (j g : Nat) (m9 : Mm) (x y : Int32), g ≤ n → n + 1 ≤ g + j → (TRf m m9 ∧ ∃ V : Nat → Int32, (∀ i, i < g → ∃ D, V i = gaV (runF Λ Ψ n np (Λ 0 2) (nI p) i D) p) ∧ (x, y) = bsQ V g) → Jj sc d 0 0 (mth 190) (pg P190 6).1 [some (.ref 0), some (.int (nI p)), some (.int x), some (.int y), some (.int (nI g)), none] [] m9 0 0 Q := by
  intro j
  induction j with
  | zero => intro g m9 x y h1 h2 hall; omega
  | succ j ih =>
    intro g m9 x y h1 h2 hall
    refine J_w z190 (i := 6) (by decide) 80 ?_
    obtain ⟨hT, V, hV, hxy⟩ := hall
    have hW0 := hW
    have hW : Wd m9.2.2 := by rw [hT.1]; exact hW0
    have ha9 : va_rf (mR m9 0 3) = .ref a := by rw [show mR m9 = mR m from congrArg (fun w : WR => w.1) hT.1]; exact ha
    have hL : LW m9.2.2 a := by rw [hT.1]; exact hL
    have hn9 : mI m9 (a + 1) 4 = nI n := by rw [hT.2 (a + 1) (by omega), hΛ 1 (by decide)]; exact hn
    refine And.intro (Wdo_0 hW) (Exists.intro _ (And.intro ha9 ?_))
    refine And.intro ⟨by omega, Nat.le_of_ble_eq_true rfl, Nat.le_refl _, Nat.le_refl _⟩ (And.intro (LWo_0 hL) ?_)
    refine C23 hL ?_
    rw [hn9]
    refine And.intro (fun cz10 => ?_) (fun cz10 => ?_)
    · -- 10 taken: nI n ≤ nI g
      have kz10 : n ≤ g := kle (a := n) (b := g) rfl rfl (by omega) (by omega) cz10
      refine And.intro ⟨rfl, trivial, Nat.le_refl _, Nat.le_refl _⟩ ?_
      rw [show g = n by omega] at hV hxy
      rw [show x = (bsQ V n).1 from by rw [← hxy]]
      exact hQ m9 V hT hV
    · -- 10 not: ¬ nI n ≤ nI g
      have kz10 : g < n := knle (a := n) (b := g) rfl rfl (by omega) (by omega) cz10
      refine And.intro ⟨by omega, Nat.le_of_ble_eq_true rfl, Nat.le_refl _, Nat.le_refl _⟩ (And.intro (Wdo_0 hW) ?_)
      refine C189 (m := m9) (Λ := Λ) (Ψ := Ψ) (n := n) (np := np) (p := p) (g := g) (by omega) hW ha9 hL hab (fun f hf => by rw [hT.2 (a + f) (by omega)]; exact hΛ f hf) (fun f hf => by rw [hT.2 (20 + f) (by omega)]; exact hΨ f hf) hJ hn hn6 hnp hnp8 hp (by omega) (fun m8 D8 hT8 => ?_)
      generalize hv9 : gaV (runF Λ Ψ n np (Λ 0 2) (nI p) g D8) p = v9
      refine And.intro (fun cz18 => ?_) (fun cz18 => ?_)
      · -- 18 taken: v9 = -nI 2
        show Jj sc d 0 0 (mth 190) (pg P190 6).1 [some (.ref 0), some (.int (nI p)), some (.int x), some (.int y), some (.int (nI g + nI 1)), some (.int v9)] [] m8 0 0 Q
        rw [show nI g + nI 1 = nI (g + 1) from by simp only [nI_add, pk_mul]]
        refine J_wk (L' := [some (.ref 0), some (.int (nI p)), some (.int x), some (.int y), some (.int (nI (g + 1))), none]) ⟨rfl, rfl, rfl, rfl, rfl, trivial⟩ ?_
        refine ih (g + 1) m8 x y (by omega) (by omega) ⟨TRf_t hT hT8, upd V g v9, fun i hi => ?_, by rw [bs_n hxy, if_pos cz18]⟩
        by_cases ei : i = g
        · rw [ei, upd_e]; exact ⟨D8, hv9.symm⟩
        · rw [upd_o ei]; exact hV i (by omega)
      · -- 18 not: ¬ v9 = -nI 2
        refine And.intro (fun cz21 => ?_) (fun cz21 => ?_)
        · -- 21 taken: y ≤ v9
          show Jj sc d 0 0 (mth 190) (pg P190 6).1 [some (.ref 0), some (.int (nI p)), some (.int x), some (.int y), some (.int (nI g + nI 1)), some (.int v9)] [] m8 0 0 Q
          rw [show nI g + nI 1 = nI (g + 1) from by simp only [nI_add, pk_mul]]
          refine J_wk (L' := [some (.ref 0), some (.int (nI p)), some (.int x), some (.int y), some (.int (nI (g + 1))), none]) ⟨rfl, rfl, rfl, rfl, rfl, trivial⟩ ?_
          refine ih (g + 1) m8 x y (by omega) (by omega) ⟨TRf_t hT hT8, upd V g v9, fun i hi => ?_, by rw [bs_n hxy, if_neg cz18, if_pos cz21]⟩
          by_cases ei : i = g
          · rw [ei, upd_e]; exact ⟨D8, hv9.symm⟩
          · rw [upd_o ei]; exact hV i (by omega)
        · -- 21 not: ¬ y ≤ v9
          show Jj sc d 0 0 (mth 190) (pg P190 6).1 [some (.ref 0), some (.int (nI p)), some (.int (nI g)), some (.int v9), some (.int (nI g + nI 1)), some (.int v9)] [] m8 0 0 Q
          rw [show nI g + nI 1 = nI (g + 1) from by simp only [nI_add, pk_mul]]
          refine J_wk (L' := [some (.ref 0), some (.int (nI p)), some (.int (nI g)), some (.int v9), some (.int (nI (g + 1))), none]) ⟨rfl, rfl, rfl, rfl, rfl, trivial⟩ ?_
          refine ih (g + 1) m8 (nI g) v9 (by omega) (by omega) ⟨TRf_t hT hT8, upd V g v9, fun i hi => ?_, by rw [bs_n hxy, if_neg cz18, if_neg cz21]⟩
          by_cases ei : i = g
          · rw [ei, upd_e]; exact ⟨D8, hv9.symm⟩
          · rw [upd_o ei]; exact hV i (by omega)
theorem C190 {d : Nat} {m : Mm} {Q : Option Value → Mm → Prop} {a n np p : Nat} {Λ Ψ : Nat → Nat → Int32} (hd : 7 ≤ d) (hW : Wd m.2.2) (ha : va_rf (mR m 0 3) = .ref a) (hL : LW m.2.2 a) (hab : a = 1 ∨ a = 93) (hΛ : ∀ f, f < 19 → mI m (a + f) = Λ f) (hΨ : ∀ f, f < 4 → mI m (20 + f) = Ψ f) (hJ : JE Λ Ψ n np) (hn : Λ 1 4 = nI n) (hn6 : n ≤ 6) (hnp : Λ 1 8 = nI np) (hnp8 : np ≤ 8) (hp : p < np) (hQ : ∀ m9 V, TRf m m9 → (∀ i, i < n → ∃ D, V i = gaV (runF Λ Ψ n np (Λ 0 2) (nI p) i D) p) → Q (some (.int (bsQ V n).1)) m9)  : Cc d 0 0 190 [.ref 0, .int (nI p)] m Q := by
  refine ent (n := 80) z190 (by decide) rfl (by decide) (Nat.le_of_ble_eq_true rfl) (fun sc => ?_)
  show Jj sc d 0 0 (mth 190) (pg P190 6).1 [some (.ref 0), some (.int (nI p)), some (.int (-nI 2)), some (.int (nI 96)), some (.int (nI 0)), none] [] m 0 0 Q
  exact lbs hd hW ha hL hab hΛ hΨ hJ hn hn6 hnp hnp8 hp hQ (n + 1) 0 m (-nI 2) (nI 96) (Nat.zero_le _) (by omega) ⟨TRf_r, fun _ => 0, fun i hi => absurd hi (Nat.not_lt_zero _), rfl⟩
theorem D288 {d : Nat} {m : Mm} {Q : Option Value → Mm → Prop} {q n np p : Nat} {Λ Ψ : Nat → Nat → Int32} (hd : 7 ≤ d) (hW : Wd m.2.2) (hN : NW m.2.2 q) (hq : va_rf (mR m 142 3) = .ref q) (hR : RQD m q Λ Ψ n np) (hp : p < np) {g : Nat} {D E : Nat → Nat → Int32} (hg : g < 6) (hQ : ∀ E, Q (some (.int (gaV (runF Λ Ψ n np (mI m q 3) (nI p) g D) p))) (bput m 148 7 E))  : Cc d 0 0 288 [.ref 142, .int (nI p), .int (nI g)] (bput m 148 7 E) Q := by
  refine ent (n := 60) z288 (by decide) rfl (by decide) (Nat.le_of_ble_eq_true rfl) (fun sc => ?_)
  have h158 := hR.1
  have hp8 : p < 8 := by have := hR.2.1; omega
  refine And.intro (Wdo_142 hW) (Exists.intro _ (And.intro hq ?_))
  refine And.intro (NWo_0 hN) ?_
  rw [bput_hi (m := m) (x := 148) (n := 7) (D := E) (b := q) (by omega)]
  refine And.intro ⟨by omega, Nat.le_of_ble_eq_true rfl, Nat.le_refl _, Nat.le_refl _⟩ (And.intro (Wdo_142 hW) ?_)
  refine D270r (l := mI m q 3) (la := 95) (lb := 96) (w := nI p) (gi := nI g) (g0 := g) (D := D) (by omega) hW hN hq hR (by decide) rfl (fun _ => rfl) (fun _ => hg) (fun E0 E1 hx1 hx2 => ?_)
  have hf := (FE_of hR.2.2.2.2.2.2.2.2.2.2.2.2.2.2 hx1 hx2 p (by have := hR.2.1; omega)).1 ⟨hp, Or.inr rfl⟩
  refine And.intro (Wdo_142 hW) (Exists.intro _ (And.intro (Wdr_142_25 hW) ?_))
  refine And.intro (Wdi_150 hW (vi rfl (by omega))) ?_
  rw [nI_clamp (show p < 2 ^ 31 by omega)]
  rw [bput_r (x := 148) (f := 2) (by decide)]
  rw [hf.1.2.2.1]
  refine And.intro (fun cz12 => ?_) (fun cz12 => ?_)
  · -- 12 taken: ¬ (runF Λ Ψ n np (mI m q 3) (nI p) g D) 1 p = 0
    refine And.intro ⟨rfl, trivial, Nat.le_refl _, Nat.le_refl _⟩ ?_
    have hQ9 := hQ E1
    unfold gaV at hQ9
    rw [if_neg cz12] at hQ9
    exact hQ9
  · -- 12 not: (runF Λ Ψ n np (mI m q 3) (nI p) g D) 1 p = 0
    refine And.intro (Wdo_142 hW) (Exists.intro _ (And.intro (Wdr_142_26 hW) ?_))
    refine And.intro (Wdi_151 hW (vi rfl (by omega))) ?_
    rw [nI_clamp (show p < 2 ^ 31 by omega)]
    rw [bput_r (x := 148) (f := 3) (by decide)]
    rw [hf.1.2.2.2.1]
    refine And.intro ⟨rfl, trivial, Nat.le_refl _, Nat.le_refl _⟩ ?_
    have hQ9 := hQ E1
    unfold gaV at hQ9
    rw [if_pos cz12] at hQ9
    exact hQ9
theorem lst {sc : Nat × (Nat → Int32)} {d : Nat} {m : Mm} {Q : Option Value → Mm → Prop} {q n np p : Nat} {Λ Ψ : Nat → Nat → Int32} (hd : 9 ≤ d) (hW : Wd m.2.2) (hN : NW m.2.2 q) (hq : va_rf (mR m 142 3) = .ref q) (hR : RQD m q Λ Ψ n np) (hp : p < np) {V : Nat → Int32} (hV : (∀ i, i < n → ∃ D, V i = gaV (runF Λ Ψ n np (mI m q 3) (nI p) i D) p)) (hQ : ∀ E, Q (some (.int (bsQ V n).1)) (uI (uI (bput m 148 7 E) 142 1 (nI 0)) 142 2 (-nI 1)))  : ∀ (j g : Nat) (E : Nat → Nat → Int32) (x y : Int32), g ≤ n → n + 1 ≤ g + j → ((x, y) = bsQ V g) → Jj sc d 0 0 (mth 290) (pg P290 17).1 [some (.ref 142), some (.int (nI p)), some (.int x), some (.int y), some (.int (nI g)), none] [] (bput m 148 7 E) 0 0 Q := by
  intro j
  induction j with
  | zero => intro g E x y h1 h2 hall; omega
  | succ j ih =>
    intro g E x y h1 h2 hall
    refine J_w z290 (i := 17) (by decide) 108 ?_
    obtain ⟨h158, hnp8, hnp, hpr, hGN, hso, hgd, hof, hba, hv1, hv2, hn6, hn, hv0, hJ⟩ := id hR
    refine And.intro (Wdo_142 hW) (Exists.intro _ (And.intro hq ?_))
    refine And.intro (NWo_0 hN) ?_
    rw [bput_hi (m := m) (x := 148) (n := 7) (D := E) (b := q) (by omega)]
    rw [hn]
    refine And.intro (fun cz21 => ?_) (fun cz21 => ?_)
    · -- 21 taken: nI n ≤ nI g
      have kz21 : n ≤ g := kle (a := n) (b := g) rfl rfl (by omega) (by omega) cz21
      refine And.intro ⟨by omega, Nat.le_of_ble_eq_true rfl, Nat.le_refl _, Nat.le_refl _⟩ (And.intro (Wdo_142 hW) ?_)
      refine C202 (m := (bput m 148 7 E)) hW ?_
      refine And.intro ⟨rfl, trivial, Nat.le_refl _, Nat.le_refl _⟩ ?_
      rw [show g = n by omega] at hall
      rw [show x = (bsQ V n).1 from by rw [← hall]]
      exact hQ E
    · -- 21 not: ¬ nI n ≤ nI g
      have kz21 : g < n := knle (a := n) (b := g) rfl rfl (by omega) (by omega) cz21
      refine And.intro ⟨by omega, Nat.le_of_ble_eq_true rfl, Nat.le_refl _, Nat.le_refl _⟩ (And.intro (Wdo_142 hW) ?_)
      obtain ⟨D8, eV⟩ := hV g kz21
      refine D288 (g := g) (D := D8) (by omega) hW hN hq hR hp (by omega) (fun E1 => ?_)
      rw [← eV]
      refine And.intro (fun cz29 => ?_) (fun cz29 => ?_)
      · -- 29 taken: V g = -nI 2
        show Jj sc d 0 0 (mth 290) (pg P290 17).1 [some (.ref 142), some (.int (nI p)), some (.int x), some (.int y), some (.int (nI g + nI 1)), some (.int (V g))] [] (bput m 148 7 E1) 0 0 Q
        rw [show nI g + nI 1 = nI (g + 1) from by simp only [nI_add, pk_mul]]
        refine J_wk (L' := [some (.ref 142), some (.int (nI p)), some (.int x), some (.int y), some (.int (nI (g + 1))), none]) ⟨rfl, rfl, rfl, rfl, rfl, trivial⟩ ?_
        exact ih (g + 1) E1 x y (by omega) (by omega) (by rw [bs_s hall, if_pos cz29])
      · -- 29 not: ¬ V g = -nI 2
        refine And.intro (fun cz32 => ?_) (fun cz32 => ?_)
        · -- 32 taken: V g < y
          show Jj sc d 0 0 (mth 290) (pg P290 17).1 [some (.ref 142), some (.int (nI p)), some (.int (nI g)), some (.int (V g)), some (.int (nI g + nI 1)), some (.int (V g))] [] (bput m 148 7 E1) 0 0 Q
          rw [show nI g + nI 1 = nI (g + 1) from by simp only [nI_add, pk_mul]]
          refine J_wk (L' := [some (.ref 142), some (.int (nI p)), some (.int (nI g)), some (.int (V g)), some (.int (nI (g + 1))), none]) ⟨rfl, rfl, rfl, rfl, rfl, trivial⟩ ?_
          exact ih (g + 1) E1 (nI g) (V g) (by omega) (by omega) (by rw [bs_s hall, if_neg cz29, if_neg (Int32.not_le.mpr cz32)])
        · -- 32 not: ¬ V g < y
          show Jj sc d 0 0 (mth 290) (pg P290 17).1 [some (.ref 142), some (.int (nI p)), some (.int x), some (.int y), some (.int (nI g + nI 1)), some (.int (V g))] [] (bput m 148 7 E1) 0 0 Q
          rw [show nI g + nI 1 = nI (g + 1) from by simp only [nI_add, pk_mul]]
          refine J_wk (L' := [some (.ref 142), some (.int (nI p)), some (.int x), some (.int y), some (.int (nI (g + 1))), none]) ⟨rfl, rfl, rfl, rfl, rfl, trivial⟩ ?_
          exact ih (g + 1) E1 x y (by omega) (by omega) (by rw [bs_s hall, if_neg cz29, if_pos (Int32.not_lt.mp cz32)])
theorem P_alone {d : Nat} {m : Mm} {Q : Option Value → Mm → Prop} {z : Nat} {x y : Int32} (hd : 16 ≤ d) (hR : Rel z m) (h : ∀ (r : Int32) m1, Wd m1.2.2 → (∀ Q2 : Option Value → Mm → Prop, (∀ m2, Rel z m2 → Q2 (some (.int r)) m2) → Cc d 0 0 289 [.ref 142, .int x, .int y] m1 Q2) → Q (some (.int r)) m1) : Cc d 0 0 143 [.ref 0, .int x, .int y] m Q := by
  obtain ⟨hW, hz, hS, a, b, hA, hX⟩ := id hR
  obtain ⟨hL, hLb, hab, ha, hb⟩ := RelA_L hW hA
  obtain ⟨n2r, hn2, bn2, ln2⟩ := RL_n (s := 2) (f := 5) hX.2.2.1 (by decide) (fun _ _ h => h.2.2.2.2.2.1)
  change n2r ≤ 6 at bn2
  obtain ⟨n4r, hn4, bn4, ln4⟩ := RL_n (s := 4) (f := 6) hX.2.2.1 (by decide) (fun _ _ h => h.2.2.2.2.2.2.1)
  change n4r ≤ 6 at bn4
  obtain ⟨n8r, hn8, bn8, ln8⟩ := RL_n (s := 8) (f := 10) hX.2.2.1 (by decide) (fun _ _ h => h.2.2.2.2.2.2.2.2.2.2.1)
  change n8r ≤ 8 at bn8
  obtain ⟨n10r, hn10, bn10, ln10⟩ := RL_n (s := 10) (f := 12) hX.2.2.1 (by decide) (fun _ _ h => h.2.2.2.2.2.2.2.2.2.2.2.2.1)
  change n10r ≤ 4 at bn10
  refine ent (n := 58) z143 (by decide) rfl (by decide) (Nat.le_of_ble_eq_true rfl) (fun sc => ?_)
  refine And.intro ⟨by omega, Nat.le_of_ble_eq_true rfl, Nat.le_refl _, Nat.le_refl _⟩ (And.intro (Wdo_0 hW) ?_)
  refine C185 (by omega) hW ha hL hn8 (by omega) ?_
  refine And.intro (fun cz3 => ?_) (fun cz3 => ?_)
  · -- 3 taken: bi (iR x n8r) = 0
    refine And.intro ⟨by omega, Nat.le_of_ble_eq_true rfl, Nat.le_refl _, Nat.le_refl _⟩ (And.intro (Wdo_0 hW) ?_)
    refine C176 hW ?_
    refine And.intro ⟨rfl, trivial, Nat.le_refl _, Nat.le_refl _⟩ ?_
    refine h _ _ hW (fun Q2 h2 => ?_)
    refine ent (n := 64) z289 (by decide) rfl (by decide) (Nat.le_of_ble_eq_true rfl) (fun sc2 => ?_)
    refine And.intro (Wdo_142 hW) ?_
    refine And.intro ⟨by omega, Nat.le_of_ble_eq_true rfl, Nat.le_refl _, Nat.le_refl _⟩ (And.intro (Wdo_142 hW) ?_)
    refine C249 (m := (uI (uI m 0 0 (nI 1)) 142 0 (nI 0))) (by omega) hW (LN_u (LN_u ln8 (by decide)) (by decide)) (by omega) ?_
    refine And.intro (fun cr6 => ?_) (fun cr6 => False.elim (absurd (bi_ne0.mp cr6) (bi_eq0.mp cz3)))
    refine And.intro ⟨by omega, Nat.le_of_ble_eq_true rfl, Nat.le_refl _, Nat.le_refl _⟩ (And.intro (Wdo_142 hW) ?_)
    refine C200 (m := (uI (uI m 0 0 (nI 1)) 142 0 (nI 0))) hW ?_
    refine And.intro ⟨rfl, trivial, Nat.le_refl _, Nat.le_refl _⟩ ?_
    exact h2 _ (Rel_ans hR (by decide))
  · -- 3 not: ¬ bi (iR x n8r) = 0
    refine And.intro ⟨by omega, Nat.le_of_ble_eq_true rfl, Nat.le_refl _, Nat.le_refl _⟩ (And.intro (Wdo_0 hW) ?_)
    refine C181 (by omega) hW ha hL hn4 (by omega) ?_
    refine And.intro (fun cz7 => ?_) (fun cz7 => ?_)
    · -- 7 taken: ¬ bi (iR y n4r) = 0
      obtain ⟨p, hp, rfl⟩ := bi_ne0.mp cz3
      obtain ⟨g, hg, rfl⟩ := bi_ne0.mp cz7
      obtain ⟨q, hq1⟩ := RL_1 (s := 8) hX.2.2.1 (by decide) hn8 (show 0 < n8r by omega) (by omega)
      obtain ⟨hq, w, u, ha0, ha1, hq0, hq1w, hw6, hu4, hwu, hgr⟩ := RL_q hq1
      obtain ⟨h158, hqz, hN, h3, ⟨T, hI⟩, hst, hla, hLQ, hSR⟩ := hq1
      have hq6 : mI m q 6 = nI n4r := hLQ.1.2.2.2.2.2.2.1.trans hn4
      have hq5 : mI m q 5 = nI n2r := hLQ.1.2.2.2.2.2.1.trans hn2
      have hJEG := JE_of hI hSR hn2 (by omega) hn4 (by omega) hn8 (by omega)
      refine And.intro ⟨by omega, Nat.le_of_ble_eq_true rfl, Nat.le_refl _, Nat.le_refl _⟩ (And.intro (Wdo_0 hW) ?_)
      refine C189 (g := g) (Λ := lam m a) (Ψ := lam m 20) (n := n4r) (np := n8r) (p := p) (by omega) hW ha hL hab (fun f _ => rfl) (fun f _ => rfl) hJEG.1 hn4 (by omega) hn8 (by omega) hp (by omega) (fun m9 D9 hT => ?_)
      rw [show lam m a 0 2 = mI m a 2 from rfl]
      obtain ⟨a22, po⟩ := hT
      have hW0 := hW
      have hW : Wd m9.2.2 := by rw [a22]; exact hW0
      have hak8 : ∀ r, 158 ≤ r → mI m9 r = mI m r := fun r hr => po r (by omega)
      have ln2 := LN_m ln2 a22 hak8
      have ln4 := LN_m ln4 a22 hak8
      have ln8 := LN_m ln8 a22 hak8
      have ln10 := LN_m ln10 a22 hak8
      have hq : va_rf (mR m9 142 3) = .ref q := by rw [show mR m9 = mR m from congrArg (fun w : WR => w.1) a22]; exact hq
      have hN : NW m9.2.2 q := by rw [a22]; exact hN
      refine And.intro ⟨by omega, Nat.le_of_ble_eq_true rfl, Nat.le_refl _, Nat.le_refl _⟩ (And.intro (Wdo_0 hW) ?_)
      refine C177 hW ?_
      refine And.intro ⟨rfl, trivial, Nat.le_refl _, Nat.le_refl _⟩ ?_
      refine h _ _ hW (fun Q2 h2 => ?_)
      refine ent (n := 64) z289 (by decide) rfl (by decide) (Nat.le_of_ble_eq_true rfl) (fun sc2 => ?_)
      refine And.intro (Wdo_142 hW) ?_
      refine And.intro ⟨by omega, Nat.le_of_ble_eq_true rfl, Nat.le_refl _, Nat.le_refl _⟩ (And.intro (Wdo_142 hW) ?_)
      refine C249 (m := (uI (uI m9 0 0 (nI 0)) 142 0 (nI 0))) (by omega) hW (LN_u (LN_u ln8 (by decide)) (by decide)) (by omega) ?_
      refine And.intro (fun cr6 => False.elim (absurd (bi_ne0.mp cz3) (bi_eq0.mp cr6))) (fun cr6 => ?_)
      refine And.intro ⟨by omega, Nat.le_of_ble_eq_true rfl, Nat.le_refl _, Nat.le_refl _⟩ (And.intro (Wdo_142 hW) ?_)
      refine C247 (m := (uI (uI m9 0 0 (nI 0)) 142 0 (nI 0))) (by omega) hW (LN_u (LN_u ln4 (by decide)) (by decide)) (by omega) ?_
      refine And.intro (fun cr10 => False.elim (absurd (bi_ne0.mp cz7) (bi_eq0.mp cr10))) (fun cr10 => ?_)
      refine And.intro ⟨by omega, Nat.le_of_ble_eq_true rfl, Nat.le_refl _, Nat.le_refl _⟩ (And.intro (Wdo_142 hW) ?_)
      have t22 : (uI (uI m9 0 0 (nI 0)) 142 0 (nI 0)).2.2 = m.2.2 := by rw [uI_22, uI_22]; exact a22
      have tI : ∀ r, r ≠ 0 → r ≠ 142 → ¬ (124 ≤ r ∧ r < 136) → mI (uI (uI m9 0 0 (nI 0)) 142 0 (nI 0)) r = mI m r := fun r h2 h3 h4 => by rw [uI_ne h3, uI_ne h2, po r h4]
      have t0 : mI (uI (uI m9 0 0 (nI 0)) 142 0 (nI 0)) 0 0 = nI 0 := by rw [uI_ne (by decide), uI_eq, upd_e]
      have t0k : ∀ k, k ≠ 0 → mI (uI (uI m9 0 0 (nI 0)) 142 0 (nI 0)) 0 k = mI m 0 k := fun k hk => by rw [uI_ne (by decide), uI_eq, upd_o hk, po 0 (by decide)]
      have t142 : ∀ k, k ≠ 0 → mI (uI (uI m9 0 0 (nI 0)) 142 0 (nI 0)) 142 k = mI m 142 k := fun k hk => by rw [uI_eq, upd_o hk, uI_ne (by decide), po 142 (by decide)]
      generalize (uI (uI m9 0 0 (nI 0)) 142 0 (nI 0)) = m8 at t22 tI t0 t0k t142 ⊢
      have hW : Wd m8.2.2 := by rw [t22]; exact hW0
      have hN : NW m8.2.2 q := by rw [t22, ← a22]; exact hN
      have hq : va_rf (mR m8 142 3) = .ref q := by rw [show mR m8 = mR m9 from congrArg (fun w : WR => w.1) (t22.trans a22.symm)]; exact hq
      have hRQ : RQD m8 q (lam m a) (lam m 20) n4r n8r := rq_of hI hSR hn2 (by omega) hn4 (by omega) hn8 (by omega) hLQ hX.2.1 h158 (fun r hr => tI r (by omega) (by omega) (by omega))
      have hlaw : mI m8 q 3 = mI m a 2 := by rw [tI q (by omega) (by omega) (by omega)]; exact hLQ.1.2.2.2.1
      have hpp := (bput_self (m := m8) (x := 148) (n := 7)).symm
      generalize (fun f => mI m8 (148 + f)) = DE9 at hpp
      rw [hpp]
      refine D288 (g := g) (D := D9) (by omega) hW hN hq hRQ hp (by omega) (fun ER => ?_)
      clear hpp
      rw [hlaw]
      have s22 : (bput m8 148 7 ER).2.2 = m8.2.2 := bput_22
      have sI : ∀ r, r < 148 ∨ 155 ≤ r → mI (bput m8 148 7 ER) r = mI m8 r := fun r hr => by
        rcases Nat.lt_or_ge r 148 with z9 | z9
        · exact bput_lo (by omega)
        · exact bput_hi (by omega)
      have sE : ∀ f, f < 7 → mI (bput m8 148 7 ER) (148 + f) = ER f := fun f hf => bput_r hf
      generalize bput m8 148 7 ER = m7 at s22 sI sE ⊢
      have hW : Wd m7.2.2 := by rw [s22]; exact hW
      have hN : NW m7.2.2 q := by rw [s22]; exact hN
      have hq : va_rf (mR m7 142 3) = .ref q := by rw [show mR m7 = mR m8 from congrArg (fun w : WR => w.1) s22]; exact hq
      refine And.intro ⟨by omega, Nat.le_of_ble_eq_true rfl, Nat.le_refl _, Nat.le_refl _⟩ (And.intro (Wdo_142 hW) ?_)
      refine C202 (m := m7) hW ?_
      refine And.intro ⟨rfl, trivial, Nat.le_refl _, Nat.le_refl _⟩ ?_
      exact h2 _ (Rel_s7 hR (s22.trans t22) (fun r g1 g2 g3 => (sI r (Classical.byContradiction fun z9 => g1 (by unfold scr; omega))).trans (tI r g2 g3 (fun z9 => g1 (by unfold scr; omega)))) (fun _ => (sI 140 (by decide)).trans (tI 140 (by decide) (by decide) (by decide))) (by rw [sI 0 (by decide)]; exact t0) (fun k hk => by rw [sI 0 (by decide)]; exact t0k k hk) (fun k hk => by rw [sI 142 (by decide)]; exact t142 k hk))
    · -- 7 not: bi (iR y n4r) = 0
      refine And.intro ⟨by omega, Nat.le_of_ble_eq_true rfl, Nat.le_refl _, Nat.le_refl _⟩ (And.intro (Wdo_0 hW) ?_)
      refine C176 hW ?_
      refine And.intro ⟨rfl, trivial, Nat.le_refl _, Nat.le_refl _⟩ ?_
      refine h _ _ hW (fun Q2 h2 => ?_)
      refine ent (n := 64) z289 (by decide) rfl (by decide) (Nat.le_of_ble_eq_true rfl) (fun sc2 => ?_)
      refine And.intro (Wdo_142 hW) ?_
      refine And.intro ⟨by omega, Nat.le_of_ble_eq_true rfl, Nat.le_refl _, Nat.le_refl _⟩ (And.intro (Wdo_142 hW) ?_)
      refine C249 (m := (uI (uI m 0 0 (nI 1)) 142 0 (nI 0))) (by omega) hW (LN_u (LN_u ln8 (by decide)) (by decide)) (by omega) ?_
      refine And.intro (fun cr6 => False.elim (absurd (bi_ne0.mp cz3) (bi_eq0.mp cr6))) (fun cr6 => ?_)
      refine And.intro ⟨by omega, Nat.le_of_ble_eq_true rfl, Nat.le_refl _, Nat.le_refl _⟩ (And.intro (Wdo_142 hW) ?_)
      refine C247 (m := (uI (uI m 0 0 (nI 1)) 142 0 (nI 0))) (by omega) hW (LN_u (LN_u ln4 (by decide)) (by decide)) (by omega) ?_
      refine And.intro (fun cr10 => ?_) (fun cr10 => False.elim (absurd (bi_ne0.mp cr10) (bi_eq0.mp cz7)))
      refine And.intro ⟨by omega, Nat.le_of_ble_eq_true rfl, Nat.le_refl _, Nat.le_refl _⟩ (And.intro (Wdo_142 hW) ?_)
      refine C200 (m := (uI (uI m 0 0 (nI 1)) 142 0 (nI 0))) hW ?_
      refine And.intro ⟨rfl, trivial, Nat.le_refl _, Nat.le_refl _⟩ ?_
      exact h2 _ (Rel_ans hR (by decide))
theorem P_start {d : Nat} {m : Mm} {Q : Option Value → Mm → Prop} {z : Nat} {x : Int32} (hd : 16 ≤ d) (hR : Rel z m) (h : ∀ (r : Int32) m1, Wd m1.2.2 → (∀ Q2 : Option Value → Mm → Prop, (∀ m2, Rel z m2 → Q2 (some (.int r)) m2) → Cc d 0 0 290 [.ref 142, .int x] m1 Q2) → Q (some (.int r)) m1) : Cc d 0 0 144 [.ref 0, .int x] m Q := by
  obtain ⟨hW, hz, hS, a, b, hA, hX⟩ := id hR
  obtain ⟨hL, hLb, hab, ha, hb⟩ := RelA_L hW hA
  obtain ⟨n2r, hn2, bn2, ln2⟩ := RL_n (s := 2) (f := 5) hX.2.2.1 (by decide) (fun _ _ h => h.2.2.2.2.2.1)
  change n2r ≤ 6 at bn2
  obtain ⟨n4r, hn4, bn4, ln4⟩ := RL_n (s := 4) (f := 6) hX.2.2.1 (by decide) (fun _ _ h => h.2.2.2.2.2.2.1)
  change n4r ≤ 6 at bn4
  obtain ⟨n8r, hn8, bn8, ln8⟩ := RL_n (s := 8) (f := 10) hX.2.2.1 (by decide) (fun _ _ h => h.2.2.2.2.2.2.2.2.2.2.1)
  change n8r ≤ 8 at bn8
  obtain ⟨n10r, hn10, bn10, ln10⟩ := RL_n (s := 10) (f := 12) hX.2.2.1 (by decide) (fun _ _ h => h.2.2.2.2.2.2.2.2.2.2.2.2.1)
  change n10r ≤ 4 at bn10
  refine ent (n := 48) z144 (by decide) rfl (by decide) (Nat.le_of_ble_eq_true rfl) (fun sc => ?_)
  refine And.intro ⟨by omega, Nat.le_of_ble_eq_true rfl, Nat.le_refl _, Nat.le_refl _⟩ (And.intro (Wdo_0 hW) ?_)
  refine C185 (by omega) hW ha hL hn8 (by omega) ?_
  refine And.intro (fun cz3 => ?_) (fun cz3 => ?_)
  · -- 3 taken: bi (iR x n8r) = 0
    refine And.intro ⟨by omega, Nat.le_of_ble_eq_true rfl, Nat.le_refl _, Nat.le_refl _⟩ (And.intro (Wdo_0 hW) ?_)
    refine C176 hW ?_
    refine And.intro ⟨rfl, trivial, Nat.le_refl _, Nat.le_refl _⟩ ?_
    refine h _ _ hW (fun Q2 h2 => ?_)
    refine ent (n := 108) z290 (by decide) rfl (by decide) (Nat.le_of_ble_eq_true rfl) (fun sc2 => ?_)
    refine And.intro (Wdo_142 hW) ?_
    refine And.intro ⟨by omega, Nat.le_of_ble_eq_true rfl, Nat.le_refl _, Nat.le_refl _⟩ (And.intro (Wdo_142 hW) ?_)
    refine C249 (m := (uI (uI m 0 0 (nI 1)) 142 0 (nI 0))) (by omega) hW (LN_u (LN_u ln8 (by decide)) (by decide)) (by omega) ?_
    refine And.intro (fun cr6 => False.elim (absurd (bi_ne0.mp cr6) (bi_eq0.mp cz3))) (fun cr6 => ?_)
    refine And.intro ⟨by omega, Nat.le_of_ble_eq_true rfl, Nat.le_refl _, Nat.le_refl _⟩ (And.intro (Wdo_142 hW) ?_)
    refine C200 (m := (uI (uI m 0 0 (nI 1)) 142 0 (nI 0))) hW ?_
    refine And.intro ⟨rfl, trivial, Nat.le_refl _, Nat.le_refl _⟩ ?_
    exact h2 _ (Rel_ans hR (by decide))
  · -- 3 not: ¬ bi (iR x n8r) = 0
    obtain ⟨p, hp, rfl⟩ := bi_ne0.mp cz3
    obtain ⟨q, hq1⟩ := RL_1 (s := 8) hX.2.2.1 (by decide) hn8 (show 0 < n8r by omega) (by omega)
    obtain ⟨hq, w, u, ha0, ha1, hq0, hq1w, hw6, hu4, hwu, hgr⟩ := RL_q hq1
    obtain ⟨h158, hqz, hN, h3, ⟨T, hI⟩, hst, hla, hLQ, hSR⟩ := hq1
    have hq6 : mI m q 6 = nI n4r := hLQ.1.2.2.2.2.2.2.1.trans hn4
    have hq5 : mI m q 5 = nI n2r := hLQ.1.2.2.2.2.2.1.trans hn2
    have hJEG := JE_of hI hSR hn2 (by omega) hn4 (by omega) hn8 (by omega)
    refine And.intro ⟨by omega, Nat.le_of_ble_eq_true rfl, Nat.le_refl _, Nat.le_refl _⟩ (And.intro (Wdo_0 hW) ?_)
    refine C190 (Λ := lam m a) (Ψ := lam m 20) (n := n4r) (np := n8r) (p := p) (by omega) hW ha hL hab (fun f _ => rfl) (fun f _ => rfl) hJEG.1 hn4 (by omega) hn8 (by omega) hp (fun m9 V hT hV => ?_)
    obtain ⟨a22, po⟩ := hT
    have hW0 := hW
    have hW : Wd m9.2.2 := by rw [a22]; exact hW0
    have hak8 : ∀ r, 158 ≤ r → mI m9 r = mI m r := fun r hr => po r (by omega)
    have ln2 := LN_m ln2 a22 hak8
    have ln4 := LN_m ln4 a22 hak8
    have ln8 := LN_m ln8 a22 hak8
    have ln10 := LN_m ln10 a22 hak8
    have hq : va_rf (mR m9 142 3) = .ref q := by rw [show mR m9 = mR m from congrArg (fun w : WR => w.1) a22]; exact hq
    have hN : NW m9.2.2 q := by rw [a22]; exact hN
    refine And.intro ⟨by omega, Nat.le_of_ble_eq_true rfl, Nat.le_refl _, Nat.le_refl _⟩ (And.intro (Wdo_0 hW) ?_)
    refine C177 hW ?_
    refine And.intro ⟨rfl, trivial, Nat.le_refl _, Nat.le_refl _⟩ ?_
    refine h _ _ hW (fun Q2 h2 => ?_)
    refine ent (n := 108) z290 (by decide) rfl (by decide) (Nat.le_of_ble_eq_true rfl) (fun sc2 => ?_)
    refine And.intro (Wdo_142 hW) ?_
    refine And.intro ⟨by omega, Nat.le_of_ble_eq_true rfl, Nat.le_refl _, Nat.le_refl _⟩ (And.intro (Wdo_142 hW) ?_)
    refine C249 (m := (uI (uI m9 0 0 (nI 0)) 142 0 (nI 0))) (by omega) hW (LN_u (LN_u ln8 (by decide)) (by decide)) (by omega) ?_
    refine And.intro (fun cr6 => ?_) (fun cr6 => False.elim (absurd (bi_ne0.mp cz3) (bi_eq0.mp cr6)))
    have t22 : (uI (uI m9 0 0 (nI 0)) 142 0 (nI 0)).2.2 = m.2.2 := by rw [uI_22, uI_22]; exact a22
    have tI : ∀ r, r ≠ 0 → r ≠ 142 → ¬ (124 ≤ r ∧ r < 136) → mI (uI (uI m9 0 0 (nI 0)) 142 0 (nI 0)) r = mI m r := fun r h2 h3 h4 => by rw [uI_ne h3, uI_ne h2, po r h4]
    have t0 : mI (uI (uI m9 0 0 (nI 0)) 142 0 (nI 0)) 0 0 = nI 0 := by rw [uI_ne (by decide), uI_eq, upd_e]
    have t0k : ∀ k, k ≠ 0 → mI (uI (uI m9 0 0 (nI 0)) 142 0 (nI 0)) 0 k = mI m 0 k := fun k hk => by rw [uI_ne (by decide), uI_eq, upd_o hk, po 0 (by decide)]
    have t142 : ∀ k, k ≠ 0 → mI (uI (uI m9 0 0 (nI 0)) 142 0 (nI 0)) 142 k = mI m 142 k := fun k hk => by rw [uI_eq, upd_o hk, uI_ne (by decide), po 142 (by decide)]
    generalize (uI (uI m9 0 0 (nI 0)) 142 0 (nI 0)) = m8 at t22 tI t0 t0k t142 ⊢
    have hW : Wd m8.2.2 := by rw [t22]; exact hW0
    have hN : NW m8.2.2 q := by rw [t22, ← a22]; exact hN
    have hq : va_rf (mR m8 142 3) = .ref q := by rw [show mR m8 = mR m9 from congrArg (fun w : WR => w.1) (t22.trans a22.symm)]; exact hq
    have hRQ : RQD m8 q (lam m a) (lam m 20) n4r n8r := rq_of hI hSR hn2 (by omega) hn4 (by omega) hn8 (by omega) hLQ hX.2.1 h158 (fun r hr => tI r (by omega) (by omega) (by omega))
    have hlaw : mI m8 q 3 = mI m a 2 := by rw [tI q (by omega) (by omega) (by omega)]; exact hLQ.1.2.2.2.1
    have hV9 : ∀ i, i < n4r → ∃ D, V i = gaV (runF (lam m a) (lam m 20) n4r n8r (mI m8 q 3) (nI p) i D) p := by rw [hlaw]; exact hV
    have hpp := (bput_self (m := m8) (x := 148) (n := 7)).symm
    generalize (fun f => mI m8 (148 + f)) = DE9 at hpp
    rw [hpp]
    show Jj sc2 d 0 0 (mth 290) (pg P290 17).1 [some (.ref 142), some (.int (nI p)), some (.int (-nI 2)), some (.int (nI 96)), some (.int (nI 0)), none] [] (bput m8 148 7 DE9) 0 0 Q2
    refine lst (by omega) hW hN hq hRQ hp hV9 (fun ER => ?_) (n4r + 1) 0 DE9 (-nI 2) (nI 96) (Nat.zero_le _) (by omega) rfl
    clear hpp
    have s22 : (bput m8 148 7 ER).2.2 = m8.2.2 := bput_22
    have sI : ∀ r, r < 148 ∨ 155 ≤ r → mI (bput m8 148 7 ER) r = mI m8 r := fun r hr => by
      rcases Nat.lt_or_ge r 148 with z9 | z9
      · exact bput_lo (by omega)
      · exact bput_hi (by omega)
    have sE : ∀ f, f < 7 → mI (bput m8 148 7 ER) (148 + f) = ER f := fun f hf => bput_r hf
    generalize bput m8 148 7 ER = m7 at s22 sI sE ⊢
    have hW : Wd m7.2.2 := by rw [s22]; exact hW
    have hN : NW m7.2.2 q := by rw [s22]; exact hN
    have hq : va_rf (mR m7 142 3) = .ref q := by rw [show mR m7 = mR m8 from congrArg (fun w : WR => w.1) s22]; exact hq
    exact h2 _ (Rel_s7 hR (s22.trans t22) (fun r g1 g2 g3 => (sI r (Classical.byContradiction fun z9 => g1 (by unfold scr; omega))).trans (tI r g2 g3 (fun z9 => g1 (by unfold scr; omega)))) (fun _ => (sI 140 (by decide)).trans (tI 140 (by decide) (by decide) (by decide))) (by rw [sI 0 (by decide)]; exact t0) (fun k hk => by rw [sI 0 (by decide)]; exact t0k k hk) (fun k hk => by rw [sI 142 (by decide)]; exact t142 k hk))
