def rwR (B : Nat → Int32) (r p : Nat) (E : Nat → Nat → Int32) (x : Nat) : Nat → Nat → Int32 := fo (fun x E => ud E 1 (r + x) (B (p + x) - nI 97)) E x
theorem rwR_s {B : Nat → Int32} {r p : Nat} {E : Nat → Nat → Int32} {x : Nat} : rwR B r p E (x + 1) = ud (rwR B r p E x) 1 (r + x) (B (p + x) - nI 97) := fo_s
theorem rwR_0 {B : Nat → Int32} {r p : Nat} {E : Nat → Nat → Int32} : rwR B r p E 0 = E := rfl
theorem rwR_r {B : Nat → Int32} {r p f : Nat} {E : Nat → Nat → Int32} (hf : f ≠ 1) : ∀ x, rwR B r p E x f = E f
  | 0 => rfl
  | x + 1 => by rw [rwR_s, ud_ne hf, rwR_r hf x]
theorem rwR_l {B : Nat → Int32} {r p v : Nat} {E : Nat → Nat → Int32} (hv : v < r) : ∀ x, rwR B r p E x 1 v = E 1 v
  | 0 => rfl
  | x + 1 => by rw [rwR_s, ud_eq, upd_o (by omega), rwR_l hv x]
theorem rw_q {B : Nat → Int32} {r s p v : Nat} {E Λ : Nat → Nat → Int32} (hs : s = r) (h : E 1 v = Λ 2 v) : ∀ x, rwR B r p E x 1 v = rwQ B s p Λ x 2 v
  | 0 => h
  | x + 1 => by rw [rwR_s, rwQ_s, ud_eq, ud_eq, hs]; exact upd_q (fun _ => by have := rw_q (B := B) (p := p) hs h x; rw [hs] at this; exact this)
theorem grF_c {f g : Nat → Int32} : ∀ {n : Nat}, (∀ v, v < n → f v = g v) → grF f n = grF g n
  | 0, _ => rfl
  | n + 1, h => by
    have e := grF_c (n := n) (fun v hv => h v (by omega))
    show grF f n ||| nI 1 <<< (f n &&& 31) = grF g n ||| nI 1 <<< (g n &&& 31)
    rw [e, h n (by omega)]
theorem grF_s {f : Nat → Int32} {n : Nat} : grF f (n + 1) = grF f n ||| nI 1 <<< (f n &&& 31) := fo_s
theorem ud_id {E : Nat → Nat → Int32} {f v : Nat} : ud E f v (E f v) = E := by
  funext g x
  by_cases e : g = f
  · rw [e, ud_eq]
    by_cases ez2 : x = v
    · rw [ez2, upd_e]
    · rw [upd_o ez2]
  · rw [ud_ne e]
theorem ud_tw {E : Nat → Nat → Int32} {f v : Nat} {a b : Int32} : ud (ud E f v a) f v b = ud E f v b := by
  funext g x
  by_cases e : g = f
  · rw [e, ud_eq, ud_eq, ud_eq]
    by_cases ez2 : x = v
    · rw [ez2, upd_e, upd_e]
    · rw [upd_o ez2, upd_o ez2, upd_o ez2]
  · rw [ud_ne e, ud_ne e, ud_ne e]
theorem so_4 {x : Int32} : (nI 0 ≤ x - nI 97 ∧ x - nI 97 ≤ nI 4) ↔ soP x := by
  show (nI 0 ≤ x - nI 97 ∧ x - nI 97 ≤ nI 4) ↔ (¬ x - nI 97 < 0 ∧ ¬ nI 5 ≤ x - nI 97)
  generalize x - nI 97 = y
  have h0 : (nI 0).toInt = 0 := by decide
  have h4 : (nI 4).toInt = 4 := by decide
  have h5 : (nI 5).toInt = 5 := by decide
  have hz : (0 : Int32).toInt = 0 := by decide
  rw [Int32.le_iff_toInt_le, Int32.le_iff_toInt_le, Int32.lt_iff_toInt_lt, Int32.le_iff_toInt_le]
  omega
theorem row_n {T : NT} {Λ : Nat → Nat → Int32} {B : Nat → Int32} {n : Nat} {X : Rs Nat} {er : Nat × Nat} (h : rb X (fun i => .inl (1, plF B n i)) = (.inl er : Rs Nat)) (hk : ∀ i, X = .inr i → ¬ kiF B n i = 2) : rb X (fun i => rowL T Λ B n i) = .inl er := by
  cases X with
  | inl f => exact congrArg Sum.inl (Sum.inl.inj h)
  | inr i =>
    have e : (1, plF B n i) = er := Sum.inl.inj h
    show rowL T Λ B n i = _
    unfold rowL
    rw [if_neg (hk i rfl), e]
theorem lrow_b {sc : Nat × (Nat → Int32)} {d : Nat} {m : Mm} {Q : Option Value → Mm → Prop} {q : Nat} {E : Nat → Nat → Int32} {L : Nat → Nat → Int64} (hW : Wd m.2.2) (hN : NW m.2.2 q) (hdq : q + 29 ≤ 142 ∨ 142 + 3 ≤ q) {D : Nat → Nat → Int32} {K : Nat → Nat → Int64} {w ρ : Nat} (hq4 : va_rf (mR m 142 4) = .ref q) (hw : E 0 0 = nI w) (hro : E 0 2 = nI ρ) (hwr : w * ρ + w ≤ 24) (hQ : Q none (pp m 142 3 D K q 29 (ud (ud E 0 4 (grF (E 1) (w * ρ + w))) 0 2 (nI ρ + nI 1)) L))  : ∀ (j x : Nat) (F : Nat → Nat → Int32), x ≤ w → w + 1 ≤ x + j → (F = ud E 0 4 (grF (E 1) (w * ρ + x))) → Jj sc d 0 0 (mth 231) (pg P231 87).1 [some (.ref 142), some (.int (nI x)), none] [] (pp m 142 3 D K q 29 F L) 0 0 Q := by
  intro j
  induction j with
  | zero => intro x F h1 h2 hall; omega
  | succ j ih =>
    intro x F h1 h2 hall
    refine J_w z231 (i := 87) (by decide) 266 ?_
    have f00 : F 0 0 = nI w := by rw [hall]; exact hw
    have f02 : F 0 2 = nI ρ := by rw [hall]; exact hro
    have h32 : w ≤ 24 := by omega
    refine And.intro (Wdo_142 hW) (Exists.intro _ (And.intro hq4 ?_))
    refine And.intro (NWo_0 hN) ?_
    rw [pp_20 (y := q) (by omega) (by decide)]
    rw [f00]
    refine And.intro (fun cz91 => ?_) (fun cz91 => ?_)
    · -- 91 taken: nI w ≤ nI x
      have kz91 : w ≤ x := kle (a := w) (b := x) rfl rfl (by omega) (by omega) cz91
      refine And.intro (Wdo_142 hW) (Exists.intro _ (And.intro hq4 ?_))
      refine And.intro rfl ?_
      refine And.intro (NWo_0 hN) ?_
      rw [pp_20 (y := q) (by omega) (by decide)]
      rw [f02]
      refine And.intro (NWo_0 hN) ?_
      rw [pp_u20 (y := q) (by omega) (by decide)]
      refine And.intro ⟨rfl, rfl, Nat.le_refl _, Nat.le_refl _⟩ ?_
      rw [show x = w by omega] at hall
      rw [hall]
      exact hQ
    · -- 91 not: ¬ nI w ≤ nI x
      have kz91 : x < w := knle (a := w) (b := x) rfl rfl (by omega) (by omega) cz91
      refine And.intro (Wdo_142 hW) (Exists.intro _ (And.intro hq4 ?_))
      refine And.intro rfl ?_
      refine And.intro (NWo_0 hN) ?_
      rw [pp_20 (y := q) (by omega) (by decide)]
      refine And.intro (Wdo_142 hW) (Exists.intro _ (And.intro hq4 ?_))
      refine And.intro (NWo_0 hN) (Exists.intro _ (And.intro (NWr_0_17 hN) ?_))
      refine And.intro (Wdo_142 hW) (Exists.intro _ (And.intro hq4 ?_))
      refine And.intro (NWo_0 hN) ?_
      rw [pp_20 (y := q) (by omega) (by decide)]
      rw [f00]
      refine And.intro (Wdo_142 hW) (Exists.intro _ (And.intro hq4 ?_))
      refine And.intro (NWo_0 hN) ?_
      rw [pp_20 (y := q) (by omega) (by decide)]
      rw [f02]
      have ez109 : (nI w * nI ρ) + nI x = nI (w * ρ + x) := by simp only [nI_add, pk_mul]
      refine And.intro (NWi_1 hN (vi ez109 (by omega))) ?_
      rw [vc ez109 (by omega)]
      rw [pp_2 (y := q) (f := 1) (by omega) (by decide)]
      refine And.intro (NWo_0 hN) ?_
      rw [pp_u20 (y := q) (by omega) (by decide)]
      show Jj sc d 0 0 (mth 231) (pg P231 87).1 [some (.ref 142), some (.int (nI x + nI 1)), none] [] (pp m 142 3 D K q 29 (ud F 0 4 ((F 0 4) ||| (nI 1 <<< ((F 1 (w * ρ + x)) &&& 31)))) L) 0 0 Q
      rw [show nI x + nI 1 = nI (x + 1) from by simp only [nI_add, pk_mul]]
      refine ih (x + 1) _ (by omega) (by omega) ?_
      rw [hall, ud_tw, show w * ρ + (x + 1) = (w * ρ + x) + 1 by omega, grF_s]
      rfl
theorem lrow_f {sc : Nat × (Nat → Int32)} {d : Nat} {m : Mm} {Q : Option Value → Mm → Prop} {q : Nat} {E : Nat → Nat → Int32} {L : Nat → Nat → Int64} (hW : Wd m.2.2) (hN : NW m.2.2 q) (hdq : q + 29 ≤ 142 ∨ 142 + 3 ≤ q) {D : Nat → Nat → Int32} {K : Nat → Nat → Int64} {B : Nat → Int32} {n w x : Nat} {e : Nat × Nat} (hd : 3 ≤ d) (hq4 : va_rf (mR m 142 4) = .ref q) (hw : E 0 0 = nI w) (hw24 : w ≤ 24) (hx24 : x ≤ 25) (hX : RX B n (.inl e) D K) (hQ : ∀ D1 K1, RX B n (.inl e) D1 K1 → FY D D1 → Q none (pp m 142 3 D1 K1 q 29 E L)) : Jj sc d 0 0 (mth 231) (pg P231 37).1 [some (.ref 142), some (.int (nI x)), none] [] (pp m 142 3 D K q 29 E L) 0 0 Q := by
  refine J_w z231 (i := 37) (by decide) 266 ?_
  refine And.intro (Wdo_142 hW) (Exists.intro _ (And.intro hq4 ?_))
  refine And.intro (NWo_0 hN) ?_
  rw [pp_20 (y := q) (by omega) (by decide)]
  rw [hw]
  refine And.intro (fun cz41 => ?_) (fun cz41 => ?_)
  · -- 41 taken: nI w ≤ nI x
    have kz41 : w ≤ x := kle (a := w) (b := x) rfl rfl (by omega) (by omega) cz41
    refine And.intro ⟨by omega, Nat.le_of_ble_eq_true rfl, Nat.le_refl _, Nat.le_refl _⟩ (And.intro (Wdo_142 hW) ?_)
    refine X211 hW hN hdq hX (fun i e => by cases e) (by omega) (fun D1 K1 hX1 hy1 => ?_)
    · -- a way behind the call
      refine And.intro (Wdo_142 hW) ?_
      rw [pp_10 (x := 142) (by decide)]
      refine And.intro (fun cz83 => ?_) (fun cz83 => ?_)
      · -- 83 taken: ¬ D1 0 9 = nI 5
        exact absurd hX1.2.1 cz83
      · -- 83 not: D1 0 9 = nI 5
        refine And.intro ⟨rfl, rfl, Nat.le_refl _, Nat.le_refl _⟩ ?_
        exact hQ _ _ hX1 hy1
  · -- 41 not: ¬ nI w ≤ nI x
    have kz41 : x < w := knle (a := w) (b := x) rfl rfl (by omega) (by omega) cz41
    refine And.intro (Wdo_142 hW) ?_
    rw [pp_10 (x := 142) (by decide)]
    refine And.intro (fun cz45 => ?_) (fun cz45 => ?_)
    · -- 45 taken: D 0 9 = nI 5
      refine And.intro ⟨by omega, Nat.le_of_ble_eq_true rfl, Nat.le_refl _, Nat.le_refl _⟩ (And.intro (Wdo_142 hW) ?_)
      refine X211 hW hN hdq hX (fun i e => by cases e) (by omega) (fun D1 K1 hX1 hy1 => ?_)
      · -- a way behind the call
        refine And.intro (Wdo_142 hW) ?_
        rw [pp_10 (x := 142) (by decide)]
        refine And.intro (fun cz83 => ?_) (fun cz83 => ?_)
        · -- 83 taken: ¬ D1 0 9 = nI 5
          exact absurd hX1.2.1 cz83
        · -- 83 not: D1 0 9 = nI 5
          refine And.intro ⟨rfl, rfl, Nat.le_refl _, Nat.le_refl _⟩ ?_
          exact hQ _ _ hX1 hy1
    · -- 45 not: ¬ D 0 9 = nI 5
      exact absurd hX.2.1 cz45
theorem lrow_a {sc : Nat × (Nat → Int32)} {d : Nat} {m : Mm} {Q : Option Value → Mm → Prop} {q : Nat} {E : Nat → Nat → Int32} {L : Nat → Nat → Int64} (hW : Wd m.2.2) (hN : NW m.2.2 q) (hdq : q + 29 ≤ 142 ∨ 142 + 3 ≤ q) {D : Nat → Nat → Int32} {K : Nat → Nat → Int64} {B : Nat → Int32} {n i w ρ : Nat} (hd : 3 ≤ d) (hq4 : va_rf (mR m 142 4) = .ref q) (hw : E 0 0 = nI w) (hro : E 0 2 = nI ρ) (hwr : w * ρ + w ≤ 24) (hX : RX B n (.inr i) D K) (kk2 : kiF B n i = 2) (hlw : leT B n i = w) (h04 : E 0 4 = grF (E 1) (w * ρ)) (hQ : ∀ D1 K1, (∀ x1, x1 < w → soP (B (plF B n i + x1))) → RX B n (.inr (nxF B n i)) D1 K1 → FY D D1 → Q none (pp m 142 3 D1 K1 q 29 (ud (ud (rwR B (w * ρ) (plF B n i) E w) 0 4 (grF (rwR B (w * ρ) (plF B n i) E w 1) (w * ρ + w))) 0 2 (nI ρ + nI 1)) L)) (hF : ∀ D1 K1 E1, ¬ (∀ x1, x1 < w → soP (B (plF B n i + x1))) → RX B n (.inl (7, plF B n i)) D1 K1 → FY D D1 → Q none (pp m 142 3 D1 K1 q 29 E1 L))  : ∀ (j x : Nat), x ≤ w → w + 1 ≤ x + j → (∀ x1, x1 < x → soP (B (plF B n i + x1))) → Jj sc d 0 0 (mth 231) (pg P231 37).1 [some (.ref 142), some (.int (nI x)), none] [] (pp m 142 3 D K q 29 (rwR B (w * ρ) (plF B n i) E x) L) 0 0 Q := by
  intro j
  induction j with
  | zero => intro x h1 h2 hall; omega
  | succ j ih =>
    intro x h1 h2 hall
    refine J_w z231 (i := 37) (by decide) 266 ?_
    have h32 : w ≤ 24 := by omega
    have hl8 := (ki2_l kk2).1
    have hT := hX.2.1
    have hsp := (hT.2.2.2.1 kk2).2.2
    refine And.intro (Wdo_142 hW) (Exists.intro _ (And.intro hq4 ?_))
    refine And.intro (NWo_0 hN) ?_
    rw [pp_20 (y := q) (by omega) (by decide)]
    rw [((congrFun (rwR_r (by decide) x) 0).trans hw)]
    refine And.intro (fun cz41 => ?_) (fun cz41 => ?_)
    · -- 41 taken: nI w ≤ nI x
      have kz41 : w ≤ x := kle (a := w) (b := x) rfl rfl (by omega) (by omega) cz41
      refine And.intro ⟨by omega, Nat.le_of_ble_eq_true rfl, Nat.le_refl _, Nat.le_refl _⟩ (And.intro (Wdo_142 hW) ?_)
      refine X211 hW hN hdq hX (fun j e => by rw [← Sum.inr.inj e, kk2]; decide) (by omega) (fun D1 K1 hX1 hy1 => ?_)
      · -- a way behind the call
        change RX B n (.inr (nxF B n i)) D1 K1 at hX1
        refine And.intro (Wdo_142 hW) ?_
        rw [pp_10 (x := 142) (by decide)]
        refine And.intro (fun cz83 => ?_) (fun cz83 => ?_)
        · -- 83 taken: ¬ D1 0 9 = nI 5
          show Jj sc d 0 0 (mth 231) (pg P231 87).1 [some (.ref 142), some (.int (nI 0)), none] [] (pp m 142 3 D1 K1 q 29 (rwR B (w * ρ) (plF B n i) E x) L) 0 0 Q
          rw [show x = w by omega] at hall ⊢
          have g0 : ∀ v, rwR B (w * ρ) (plF B n i) E w 0 v = E 0 v := fun v => congrFun (rwR_r (by decide) w) v
          have g4 : rwR B (w * ρ) (plF B n i) E w 0 4 = grF (rwR B (w * ρ) (plF B n i) E w 1) (w * ρ) := by
            rw [g0, h04]
            exact (grF_c (fun v hv => rwR_l hv w)).symm
          exact lrow_b hW hN hdq hq4 ((g0 0).trans hw) ((g0 2).trans hro) hwr (hQ _ _ hall hX1 hy1) (w + 1) 0 _ (Nat.zero_le _) (by omega) (by rw [Nat.add_zero, ← g4]; exact ud_id.symm)
        · -- 83 not: D1 0 9 = nI 5
          exact absurd cz83 (sq_5 hX1.2.1.2.1)
    · -- 41 not: ¬ nI w ≤ nI x
      have kz41 : x < w := knle (a := w) (b := x) rfl rfl (by omega) (by omega) cz41
      refine And.intro (Wdo_142 hW) ?_
      rw [pp_10 (x := 142) (by decide)]
      refine And.intro (fun cz45 => ?_) (fun cz45 => ?_)
      · -- 45 taken: D 0 9 = nI 5
        exact absurd cz45 (sq_5 hT.2.1)
      · -- 45 not: ¬ D 0 9 = nI 5
        refine And.intro (Wdo_142 hW) (Exists.intro _ (And.intro (Wdr_142_16 hW) ?_))
        refine And.intro (Wdi_144 hW (vi rfl (by omega))) ?_
        rw [nI_clamp (show x < 2 ^ 31 by omega)]
        rw [pp_1 (x := 142) (f := 2) (by decide)]
        rw [hsp x (by omega)]
        refine And.intro ⟨by omega, Nat.le_of_ble_eq_true rfl, Nat.le_refl _, Nat.le_refl _⟩ ?_
        refine C204 (m := (pp m 142 3 D K q 29 (rwR B (w * ρ) (plF B n i) E x) L)) ?_
        refine And.intro (fun cz57 => ?_) (fun cz57 => ?_)
        · -- 57 taken: bi (nI 0 ≤ (B (plF B n i + x)) - nI 97 ∧ (B (plF B n i + x)) - nI 97 ≤ nI 4) = 0
          refine And.intro ⟨by omega, Nat.le_of_ble_eq_true rfl, Nat.le_refl _, Nat.le_refl _⟩ (And.intro (Wdo_142 hW) ?_)
          refine X212 (f := 7) hW hN hdq hX (fun D1 hX1 hy1 => ?_)
          · -- a way behind the call
            change RX B n (.inl (7, plF B n i)) D1 K at hX1
            show Jj sc d 0 0 (mth 231) (pg P231 37).1 [some (.ref 142), some (.int (nI x + nI 1)), some (.int ((B (plF B n i + x)) - nI 97))] [] (pp m 142 3 D1 K q 29 (rwR B (w * ρ) (plF B n i) E x) L) 0 0 Q
            rw [show nI x + nI 1 = nI (x + 1) from by simp only [nI_add, pk_mul]]
            refine J_wk (L' := [some (.ref 142), some (.int (nI (x + 1))), none]) ⟨rfl, rfl, trivial⟩ ?_
            exact lrow_f (w := w) (x := x + 1) hW hN hdq (by omega) hq4 ((congrFun (rwR_r (by decide) x) 0).trans hw) h32 (by omega) hX1 (fun D2 K2 hX2 hy2 => hF D2 K2 _ (fun z => bi_eq0.mp cz57 (so_4.mpr (z x (by omega)))) hX2 (FY_t hy1 hy2))
        · -- 57 not: ¬ bi (nI 0 ≤ (B (plF B n i + x)) - nI 97 ∧ (B (plF B n i + x)) - nI 97 ≤ nI 4) = 0
          refine And.intro (Wdo_142 hW) (Exists.intro _ (And.intro hq4 ?_))
          refine And.intro (NWo_0 hN) (Exists.intro _ (And.intro (NWr_0_17 hN) ?_))
          refine And.intro (Wdo_142 hW) (Exists.intro _ (And.intro hq4 ?_))
          refine And.intro (NWo_0 hN) ?_
          rw [pp_20 (y := q) (by omega) (by decide)]
          rw [((congrFun (rwR_r (by decide) x) 0).trans hw)]
          refine And.intro (Wdo_142 hW) (Exists.intro _ (And.intro hq4 ?_))
          refine And.intro (NWo_0 hN) ?_
          rw [pp_20 (y := q) (by omega) (by decide)]
          rw [((congrFun (rwR_r (by decide) x) 2).trans hro)]
          have ez71 : (nI w * nI ρ) + nI x = nI (w * ρ + x) := by simp only [nI_add, pk_mul]
          refine And.intro (NWi_1 hN (vi ez71 (by omega))) ?_
          rw [vc ez71 (by omega)]
          rw [pp_u2 (y := q) (f := 1) (by omega) (by decide)]
          show Jj sc d 0 0 (mth 231) (pg P231 37).1 [some (.ref 142), some (.int (nI x + nI 1)), some (.int ((B (plF B n i + x)) - nI 97))] [] (pp m 142 3 D K q 29 (ud (rwR B (w * ρ) (plF B n i) E x) 1 (w * ρ + x) ((B (plF B n i + x)) - nI 97)) L) 0 0 Q
          rw [show nI x + nI 1 = nI (x + 1) from by simp only [nI_add, pk_mul]]
          refine J_wk (L' := [some (.ref 142), some (.int (nI (x + 1))), none]) ⟨rfl, rfl, trivial⟩ ?_
          have hall2 : ∀ x1, x1 < x + 1 → soP (B (plF B n i + x1)) := by
            intro v9 h9
            rcases Nat.lt_or_ge v9 x with q9 | q9
            · exact hall v9 q9
            · have ez9 : v9 = x := by omega
              rw [ez9]
              exact so_4.mp (bi_ne0.mp cz57)
          have z := ih (x + 1) (by omega) (by omega) hall2
          rw [rwR_s] at z
          exact z
theorem row_NR {T : NT} {E F : Nat → Nat → Int32} {L : Nat → Nat → Int64} {a b : Int32} (h : NR T E L) (hr : ∀ f, f ≠ 1 → F f = E f) : NR T (ud (ud F 0 4 a) 0 2 b) L := by
  have ez0 : ud (ud F 0 4 a) 0 2 b 0 15 = E 0 15 := by rw [← hr 0 (by decide)]; rfl
  have ez1 : ud (ud F 0 4 a) 0 2 b 27 = E 27 := by rw [← hr 27 (by decide)]; rfl
  have ez2 : ud (ud F 0 4 a) 0 2 b 28 = E 28 := by rw [← hr 28 (by decide)]; rfl
  unfold NR
  rw [ez0, ez1, ez2]
  exact h
theorem row_LQ {Λ E F P : Nat → Nat → Int32} (h : LQ Λ E) (hr : ∀ f, f ≠ 1 → F f = E f) (hl : ∀ f, f ≠ 2 → P f = Λ f) (hq : ∀ v, v < 24 → F 1 v = P 2 v) (hc : Λ 1 1 = nI (nv (Λ 1 1))) (hk : nv (Λ 1 1) < 1000) (hb : nv (Λ 0 0) * nv (Λ 1 1) + nv (Λ 0 0) ≤ 24) : LQ (bump P 1) (ud (ud F 0 4 (grF (F 1) (nv (Λ 0 0) * nv (Λ 1 1) + nv (Λ 0 0)))) 0 2 (nI (nv (Λ 1 1)) + nI 1)) := by
  have hb5 := nv_b1 hc hk
  generalize ea : grF (F 1) (nv (Λ 0 0) * nv (Λ 1 1) + nv (Λ 0 0)) = a
  obtain ⟨hL0, hL1, hL2, hL3, hL4, hL5, hL6, hL7, hL8, hL9, hL10, hL11, hL12⟩ := h
  have hg : ∀ f, f ≠ 0 → f ≠ 1 → ud (ud F 0 4 a) 0 2 (nI (nv (Λ 1 1)) + nI 1) f = E f := fun f h0 h1 => by rw [ud_ne h0, ud_ne h0, hr f h1]
  have hp : ∀ f, f ≠ 1 → f ≠ 2 → bump P 1 f = Λ f := fun f h1 h2 => (ud_ne h1).trans (hl f h2)
  have hp1 : ∀ s, s ≠ 1 → bump P 1 1 s = Λ 1 s := fun s hs => by
    show upd (P 1) 1 (P 1 1 + nI 1) s = _
    rw [upd_o hs, hl 1 (by decide)]
  have hp11 : bump P 1 1 1 = nI (nv (Λ 1 1)) + nI 1 := by
    show upd (P 1) 1 (P 1 1 + nI 1) 1 = _
    rw [upd_e, hl 1 (by decide), ← hc]
  have hp11n : nv (bump P 1 1 1) = nv (Λ 1 1) + 1 := by rw [hp11, ← hc, hb5]
  have hg0 : ∀ s, s ≠ 4 → s ≠ 2 → ud (ud F 0 4 a) 0 2 (nI (nv (Λ 1 1)) + nI 1) 0 s = E 0 s := fun s h4 h2 => by
    rw [ud_eq, upd_o h2, ud_eq, upd_o h4, hr 0 (by decide)]
  have hg4 : ud (ud F 0 4 a) 0 2 (nI (nv (Λ 1 1)) + nI 1) 0 4 = a := rfl
  have hg2 : ud (ud F 0 4 a) 0 2 (nI (nv (Λ 1 1)) + nI 1) 0 2 = nI (nv (Λ 1 1)) + nI 1 := rfl
  have hg1 : ud (ud F 0 4 a) 0 2 (nI (nv (Λ 1 1)) + nI 1) 1 = F 1 := rfl
  refine ⟨⟨(hg0 0 (by decide) (by decide)).trans (hL0.1.trans (congrFun (hp 0 (by decide) (by decide)) 0).symm), (hg0 1 (by decide) (by decide)).trans (hL0.2.1.trans (congrFun (hp 0 (by decide) (by decide)) 1).symm), hp11.symm, (hg0 3 (by decide) (by decide)).trans (hL0.2.2.2.1.trans (congrFun (hp 0 (by decide) (by decide)) 2).symm), ?_, (hg0 5 (by decide) (by decide)).trans (hL0.2.2.2.2.2.1.trans (hp1 2 (by decide)).symm), (hg0 6 (by decide) (by decide)).trans (hL0.2.2.2.2.2.2.1.trans (hp1 4 (by decide)).symm), (hg0 7 (by decide) (by decide)).trans (hL0.2.2.2.2.2.2.2.1.trans (hp1 5 (by decide)).symm), (hg0 8 (by decide) (by decide)).trans (hL0.2.2.2.2.2.2.2.2.1.trans (hp1 6 (by decide)).symm), (hg0 9 (by decide) (by decide)).trans (hL0.2.2.2.2.2.2.2.2.2.1.trans (hp1 7 (by decide)).symm), (hg0 10 (by decide) (by decide)).trans (hL0.2.2.2.2.2.2.2.2.2.2.1.trans (hp1 8 (by decide)).symm), (hg0 11 (by decide) (by decide)).trans (hL0.2.2.2.2.2.2.2.2.2.2.2.1.trans (hp1 9 (by decide)).symm), (hg0 12 (by decide) (by decide)).trans (hL0.2.2.2.2.2.2.2.2.2.2.2.2.1.trans (hp1 10 (by decide)).symm), (hg0 13 (by decide) (by decide)).trans (hL0.2.2.2.2.2.2.2.2.2.2.2.2.2.1.trans (hp1 11 (by decide)).symm), (hg0 14 (by decide) (by decide)).trans (hL0.2.2.2.2.2.2.2.2.2.2.2.2.2.2.trans (hp1 12 (by decide)).symm)⟩, ?_, ?_, ?_, ?_, ?_, ?_, ?_, ?_, ?_, ?_, ?_, ?_⟩
  · show a = grF (bump P 1 2) (nv (bump P 1 1 1) * nv (bump P 1 0 0))
    rw [hp11n, congrFun (hp 0 (by decide) (by decide)) 0, show (nv (Λ 1 1) + 1) * nv (Λ 0 0) = nv (Λ 0 0) * nv (Λ 1 1) + nv (Λ 0 0) by rw [Nat.succ_mul, Nat.mul_comm (nv (Λ 1 1))], ← ea]
    refine grF_c (fun v hv => (hq v (by omega)).trans ?_)
    exact (congrFun (show bump P 1 2 = P 2 from ud_ne (by decide)) v).symm
  · unfold Q1
    rw [hp1 3 (by decide), hg0 16 (by decide) (by decide), hp 0 (by decide) (by decide)]
    exact hL1
  · intro v hv
    exact (hq v hv).trans (congrFun (show bump P 1 2 = P 2 from ud_ne (by decide)) v).symm
  · unfold Q3
    rw [hp1 4 (by decide), hg 2 (by decide) (by decide), hg 4 (by decide) (by decide), hg 5 (by decide) (by decide), hg 6 (by decide) (by decide), hp 3 (by decide) (by decide), hp 4 (by decide) (by decide), hp 5 (by decide) (by decide), hp 6 (by decide) (by decide)]
    exact hL3
  · unfold Q4
    rw [hg 3 (by decide) (by decide), hp 16 (by decide) (by decide)]
    exact hL4
  · unfold Q5
    rw [hg 7 (by decide) (by decide), hp 7 (by decide) (by decide)]
    exact hL5
  · unfold Q6
    rw [hg 8 (by decide) (by decide), hp 17 (by decide) (by decide)]
    exact hL6
  · unfold Q7
    rw [hg 9 (by decide) (by decide), hp 8 (by decide) (by decide)]
    exact hL7
  · unfold Q8
    rw [hp1 8 (by decide), hg 10 (by decide) (by decide), hg 11 (by decide) (by decide), hg 12 (by decide) (by decide), hg 13 (by decide) (by decide), hg 14 (by decide) (by decide), hg 15 (by decide) (by decide), hg 16 (by decide) (by decide), hp 9 (by decide) (by decide)]
    exact hL8
  · unfold Q9
    rw [hg 17 (by decide) (by decide), hp 10 (by decide) (by decide)]
    exact hL9
  · unfold Q10
    rw [hp1 10 (by decide), hg 18 (by decide) (by decide), hg 19 (by decide) (by decide), hp 11 (by decide) (by decide), hp 18 (by decide) (by decide)]
    exact hL10
  · unfold Q11
    rw [hp1 11 (by decide), hg 20 (by decide) (by decide), hg 21 (by decide) (by decide), hp 12 (by decide) (by decide), hp 13 (by decide) (by decide)]
    exact hL11
  · unfold Q12
    rw [hp1 12 (by decide), hg 22 (by decide) (by decide), hg 23 (by decide) (by decide), hg 24 (by decide) (by decide), hg 25 (by decide) (by decide), hp 14 (by decide) (by decide)]
    exact hL12
theorem L231 {d : Nat} {m : Mm} {Q : Option Value → Mm → Prop} {q : Nat} {E : Nat → Nat → Int32} {L : Nat → Nat → Int64} (hW : Wd m.2.2) (hN : NW m.2.2 q) (hdq : q + 29 ≤ 142 ∨ 142 + 3 ≤ q) {D : Nat → Nat → Int32} {K : Nat → Nat → Int64} {Λ : Nat → Nat → Int32} {T : NT} (hq4 : va_rf (mR m 142 4) = .ref q) (hLQ : LQ Λ E) (hNR : NR T E L) (hI : LRI T Λ) {B : Nat → Int32} {n i : Nat} (hR : RBy B n D) (hT : TR B n i D K) (hi : i ≤ n) (h14 : D 0 14 = nI 0) (kk2 : kiF B n i = 2) (hd : 13 ≤ d) (hQ : ∀ D1 K1 E1 L1, FY D D1 → lnPt B n 1 (rb (bgF (nI (nv (Λ 1 1))) (if E 0 0 = 0 then -nI 1 else E 0 1) (E 0 0) B n i) (fun i => rowL T Λ B n i)) D1 K1 E1 L1 → Q none (pp m 142 3 D1 K1 q 29 E1 L1)) : Cc d 0 0 231 [.ref 142] (pp m 142 3 D K q 29 E L) Q := by
  obtain ⟨hL0, hL1, hL2, hL3, hL4, hL5, hL6, hL7, hL8, hL9, hL10, hL11, hL12⟩ := hLQ
  obtain ⟨hC, hWI, hNN, hVI⟩ := hI
  obtain ⟨hn0, hTS2, hTS4, hTS8⟩ := hNN
  have hc2q := hC 2 (by decide)
  have hc4q := hC 4 (by decide)
  have hc8q := hC 8 (by decide)
  have hc10q := hC 10 (by decide)
  have hc1q := hC 1 (by decide)
  have hc1q := hC 1 (by decide)
  refine ent (n := 266) z231 (by decide) rfl (by decide) (Nat.le_of_ble_eq_true rfl) (fun sc => ?_)
  refine And.intro (Wdo_142 hW) (Exists.intro _ (And.intro hq4 ?_))
  refine And.intro (NWo_0 hN) ?_
  rw [pp_20 (y := q) (by omega) (by decide)]
  rw [(show E 0 2 = nI (nv (Λ 1 1)) from hL0.2.2.1.trans hc1q.1)]
  refine And.intro (Wdo_142 hW) (Exists.intro _ (And.intro hq4 ?_))
  refine And.intro (NWo_0 hN) ?_
  rw [pp_20 (y := q) (by omega) (by decide)]
  refine And.intro (fun cz7 => ?_) (fun cz7 => ?_)
  · -- 7 taken: ¬ E 0 0 = 0
    refine And.intro (Wdo_142 hW) (Exists.intro _ (And.intro hq4 ?_))
    refine And.intro (NWo_0 hN) ?_
    rw [pp_20 (y := q) (by omega) (by decide)]
    refine And.intro ⟨by omega, Nat.le_of_ble_eq_true rfl, Nat.le_refl _, Nat.le_refl _⟩ (And.intro (Wdo_142 hW) ?_)
    refine L220 hW hN hdq hq4 hR hT hi h14 kk2 (by omega) (fun D1 K1 hX1 hy1 => ?_)
    generalize eX1 : bgF (nI ((nv (Λ 1 1)))) (E 0 1) (E 0 0) B n i = X1 at hX1
    have hS : rb (bgF (nI (nv (Λ 1 1))) (if E 0 0 = 0 then -nI 1 else E 0 1) (E 0 0) B n i) (fun i => rowL T Λ B n i) = rb X1 (fun i => rowL T Λ B n i) := by rw [if_neg cz7, eX1]
    · -- a way behind the call
      refine And.intro (Wdo_142 hW) ?_
      rw [pp_10 (x := 142) (by decide)]
      refine And.intro (fun cz17 => ?_) (fun cz17 => ?_)
      · -- 17 taken: D1 0 9 = nI 2
        refine And.intro (Wdo_142 hW) ?_
        rw [pp_10 (x := 142) (by decide)]
        refine And.intro (fun cz24 => ?_) (fun cz24 => ?_)
        · -- 24 taken: ¬ D1 0 9 = nI 5
          obtain ⟨i9r, ei⟩ := RX_n hX1 cz24
          have hbg := bgF_r (eX1.trans ei)
          rw [ei] at hX1 hS
          change _ = rowL T Λ B n i9r at hS
          have kk3 := (sq_q (c := 2) hX1.2.1.2.1 (by decide) (by decide)).mp cz17
          have hl13 := (hX1.2.1.2.2.2.1 kk3).1
          have hl8 := (ki2_l kk3).1
          have q1 : nv (Λ 1 1) < nv (Λ 0 1) := by
            rcases Nat.lt_or_ge (nv (Λ 1 1)) (nv (Λ 0 1)) with z | z
            · exact z
            · exact absurd ((congrArg nI (show nv (Λ 1 1) = nv (Λ 0 1) by have := hWI.2.2.2.2; omega)).trans (hWI.2.2.1.symm.trans hL0.2.1.symm)) hbg.1
          have q2 := hWI.2.2.2.1
          have q3 : (nv (Λ 1 1) + 1) * nv (Λ 0 0) ≤ 4 * 6 := Nat.mul_le_mul (by omega) hWI.2.1
          rw [Nat.succ_mul, Nat.mul_comm (nv (Λ 1 1))] at q3
          have w00 : E 0 0 = nI (nv (Λ 0 0)) := hL0.1.trans hWI.1
          have w6 := hWI.2.1
          refine And.intro (Wdo_142 hW) ?_
          rw [pp_10 (x := 142) (by decide)]
          refine And.intro (Wdo_142 hW) (Exists.intro _ (And.intro hq4 ?_))
          refine And.intro (NWo_0 hN) ?_
          rw [pp_20 (y := q) (by omega) (by decide)]
          refine And.intro (fun cz31 => ?_) (fun cz31 => ?_)
          · -- 31 taken: D1 0 13 = E 0 0
            show Jj sc d 0 0 (mth 231) (pg P231 37).1 [some (.ref 142), some (.int (nI 0)), none] [] (pp m 142 3 D1 K1 q 29 E L) 0 0 Q
            have hl31 : nI (leT B n i9r) = E 0 0 := hl13.symm.trans cz31
            have hle : leT B n i9r = nv (Λ 0 0) := (nI_eq (by omega) (by omega)).mp (hl31.trans w00)
            have h04 : E 0 4 = grF (E 1) (nv (Λ 0 0) * nv (Λ 1 1)) := by
              rw [hL0.2.2.2.2.1, Nat.mul_comm (nv (Λ 1 1))]
              exact (grF_c (fun v hv => hL2 v (by omega))).symm
            refine lrow_a hW hN hdq (by omega) hq4 w00 (hL0.2.2.1.trans hc1q.1) q3 hX1 kk3 hle h04 (fun D3 K3 hso hX3 hy3 => ?_) (fun D3 K3 E3 hso hX3 hy3 => ?_) (nv (Λ 0 0) + 1) 0 (Nat.zero_le _) (by omega) (fun _ h => absurd h (by omega))
            · refine hQ _ _ _ _ (FY_t hy1 hy3) ?_
              have hS2 : rowL T Λ B n i9r = .inr (T, rwQ B (nv (Λ 1 1) * nv (Λ 0 0)) (plF B n i9r) Λ (nv (Λ 0 0)), nxF B n i9r) := by
                unfold rowL
                rw [if_pos kk3, if_pos (hl31.trans hL0.1), if_pos hso]
              rw [hS, hS2]
              have hmc : nv (Λ 1 1) * nv (Λ 0 0) = nv (Λ 0 0) * nv (Λ 1 1) := Nat.mul_comm _ _
              have hb5 := nv_b1 hc1q.1 (by omega)
              have g0 : ∀ v, rwR B (nv (Λ 0 0) * nv (Λ 1 1)) (plF B n i9r) E (nv (Λ 0 0)) 0 v = E 0 v := fun v => congrFun (rwR_r (by decide) _) v
              have gr : ∀ f, f ≠ 1 → rwR B (nv (Λ 0 0) * nv (Λ 1 1)) (plF B n i9r) E (nv (Λ 0 0)) f = E f := fun f hf => rwR_r hf _
              have gl : ∀ f, f ≠ 2 → rwQ B (nv (Λ 1 1) * nv (Λ 0 0)) (plF B n i9r) Λ (nv (Λ 0 0)) f = Λ f := fun f hf => rwQ_r hf _
              have gq : ∀ v, v < 24 → rwR B (nv (Λ 0 0) * nv (Λ 1 1)) (plF B n i9r) E (nv (Λ 0 0)) 1 v = rwQ B (nv (Λ 1 1) * nv (Λ 0 0)) (plF B n i9r) Λ (nv (Λ 0 0)) 2 v := fun v hv => rw_q hmc (hL2 v hv) _
              refine ⟨hX3, row_NR hNR gr, row_LQ ⟨hL0, hL1, hL2, hL3, hL4, hL5, hL6, hL7, hL8, hL9, hL10, hL11, hL12⟩ gr gl gq hc1q.1 (by omega) (by omega)⟩
            · refine hQ _ _ _ _ (FY_t hy1 hy3) ?_
              rw [hS, show rowL T Λ B n i9r = .inl (7, plF B n i9r) by unfold rowL; rw [if_pos kk3, if_pos (hl31.trans hL0.1), if_neg hso]]
              exact hX3
          · -- 31 not: ¬ D1 0 13 = E 0 0
            refine And.intro ⟨by omega, Nat.le_of_ble_eq_true rfl, Nat.le_refl _, Nat.le_refl _⟩ (And.intro (Wdo_142 hW) ?_)
            refine X212 (f := 7) hW hN hdq hX1 (fun D2 hX2 hy2 => ?_)
            · -- a way behind the call
              change RX B n (.inl (7, plF B n i9r)) D2 K1 at hX2
              show Jj sc d 0 0 (mth 231) (pg P231 37).1 [some (.ref 142), some (.int (nI 0)), none] [] (pp m 142 3 D2 K1 q 29 E L) 0 0 Q
              refine lrow_f (w := nv (Λ 0 0)) (x := 0) hW hN hdq (by omega) hq4 w00 (by omega) (by omega) hX2 (fun D3 K3 hX3 hy3 => hQ _ _ _ _ (FY_t (FY_t hy1 hy2) hy3) ?_)
              rw [hS, show rowL T Λ B n i9r = .inl (7, plF B n i9r) by unfold rowL; rw [if_pos kk3, if_neg (fun z => cz31 (hl13.trans (z.trans hL0.1.symm)))]]
              exact hX3
        · -- 24 not: D1 0 9 = nI 5
          refine And.intro ⟨rfl, rfl, Nat.le_refl _, Nat.le_refl _⟩ ?_
          rw [cz17] at cz24
          exact absurd cz24 (by decide)
      · -- 17 not: ¬ D1 0 9 = nI 2
        refine And.intro ⟨by omega, Nat.le_of_ble_eq_true rfl, Nat.le_refl _, Nat.le_refl _⟩ (And.intro (Wdo_142 hW) ?_)
        refine X212 (f := 1) hW hN hdq hX1 (fun D2 hX2 hy2 => ?_)
        · -- a way behind the call
          refine And.intro (Wdo_142 hW) ?_
          rw [pp_10 (x := 142) (by decide)]
          refine And.intro (fun cz24 => ?_) (fun cz24 => ?_)
          · -- 24 taken: ¬ D2 0 9 = nI 5
            obtain ⟨j9, ej⟩ := RX_n hX2 cz24
            obtain ⟨_, _, z9⟩ := rb_r ej
            cases z9
          · -- 24 not: D2 0 9 = nI 5
            refine And.intro ⟨rfl, rfl, Nat.le_refl _, Nat.le_refl _⟩ ?_
            obtain ⟨er, ee⟩ := RX_5 hX2 cz24
            rw [ee] at hX2
            refine hQ _ _ _ _ (FY_t hy1 hy2) ?_
            rw [hS, row_n ee (fun i2 e z => cz17 (by rw [e] at hX1; exact (sq_q hX1.2.1.2.1 (by decide) (by decide)).mpr z))]
            exact hX2
  · -- 7 not: E 0 0 = 0
    refine And.intro ⟨by omega, Nat.le_of_ble_eq_true rfl, Nat.le_refl _, Nat.le_refl _⟩ (And.intro (Wdo_142 hW) ?_)
    refine L220 hW hN hdq hq4 hR hT hi h14 kk2 (by omega) (fun D1 K1 hX1 hy1 => ?_)
    generalize eX1 : bgF (nI ((nv (Λ 1 1)))) (-nI 1) (E 0 0) B n i = X1 at hX1
    have hS : rb (bgF (nI (nv (Λ 1 1))) (if E 0 0 = 0 then -nI 1 else E 0 1) (E 0 0) B n i) (fun i => rowL T Λ B n i) = rb X1 (fun i => rowL T Λ B n i) := by rw [if_pos cz7, eX1]
    · -- a way behind the call
      refine And.intro (Wdo_142 hW) ?_
      rw [pp_10 (x := 142) (by decide)]
      refine And.intro (fun cz17 => ?_) (fun cz17 => ?_)
      · -- 17 taken: D1 0 9 = nI 2
        refine And.intro (Wdo_142 hW) ?_
        rw [pp_10 (x := 142) (by decide)]
        refine And.intro (fun cz24 => ?_) (fun cz24 => ?_)
        · -- 24 taken: ¬ D1 0 9 = nI 5
          obtain ⟨i9r, ei⟩ := RX_n hX1 cz24
          have hbg := bgF_r (eX1.trans ei)
          exact absurd cz7 hbg.2.1
        · -- 24 not: D1 0 9 = nI 5
          refine And.intro ⟨rfl, rfl, Nat.le_refl _, Nat.le_refl _⟩ ?_
          rw [cz17] at cz24
          exact absurd cz24 (by decide)
      · -- 17 not: ¬ D1 0 9 = nI 2
        refine And.intro ⟨by omega, Nat.le_of_ble_eq_true rfl, Nat.le_refl _, Nat.le_refl _⟩ (And.intro (Wdo_142 hW) ?_)
        refine X212 (f := 1) hW hN hdq hX1 (fun D2 hX2 hy2 => ?_)
        · -- a way behind the call
          refine And.intro (Wdo_142 hW) ?_
          rw [pp_10 (x := 142) (by decide)]
          refine And.intro (fun cz24 => ?_) (fun cz24 => ?_)
          · -- 24 taken: ¬ D2 0 9 = nI 5
            obtain ⟨j9, ej⟩ := RX_n hX2 cz24
            obtain ⟨_, _, z9⟩ := rb_r ej
            cases z9
          · -- 24 not: D2 0 9 = nI 5
            refine And.intro ⟨rfl, rfl, Nat.le_refl _, Nat.le_refl _⟩ ?_
            obtain ⟨er, ee⟩ := RX_5 hX2 cz24
            rw [ee] at hX2
            refine hQ _ _ _ _ (FY_t hy1 hy2) ?_
            rw [hS, row_n ee (fun i2 e z => cz17 (by rw [e] at hX1; exact (sq_q hX1.2.1.2.1 (by decide) (by decide)).mpr z))]
            exact hX2
