theorem FW_k {E0 E : Nat → Nat → Int32} {p : Nat} (h : FW p E0 E) (hn : ¬ (¬ E0 0 p = -nI 1 ∧ E0 2 p = nI 2)) : FW (p + 1) E0 E := by
  refine ⟨h.1, fun x hx h0 h2 => ?_, fun x hx => h.2.2 x (fun z => hx ⟨by omega, z.2⟩)⟩
  by_cases e : x = p
  · rw [e] at h0 h2; exact absurd ⟨h0, h2⟩ hn
  · exact h.2.1 x (by omega) h0 h2
theorem FW_u {E0 E : Nat → Nat → Int32} {p : Nat} (h : FW p E0 E) (h0 : ¬ E0 0 p = -nI 1) (h2 : E0 2 p = nI 2) : FW (p + 1) E0 (ud E 4 p (E 4 p + (nI 96 - E 1 p))) := by
  refine ⟨fun f hf => by rw [ud_ne hf]; exact h.1 f hf, fun x hx g0 g2 => ?_, fun x hx => ?_⟩
  · rw [ud_eq]
    by_cases e : x = p
    · rw [e, upd_e, h.1 1 (by decide), h.2.2 p (fun z => absurd z.1 (by omega))]
    · rw [upd_o e]; exact h.2.1 x (by omega) g0 g2
  · rw [ud_eq]
    by_cases e : x = p
    · rw [e] at hx; exact absurd ⟨by omega, h0, h2⟩ hx
    · rw [upd_o e]; exact h.2.2 x (fun z => hx ⟨by omega, z.2⟩)
theorem AV_s {Λ D E E2 : Nat → Nat → Int32} {np g0 t p : Nat} {l w : Int32} (h : ∀ x, x < 8 → DP Λ np l w g0 (if x < p then t + 1 else t) D E x) (hp : DP Λ np l w g0 (t + 1) D E2 p) (hE : ∀ x, x ≠ p → ∀ f, f < 6 → E2 f x = E f x) (hM : ∀ x, x ≠ p → ∀ i, i < 100 → E2 6 (100 * x + i) = E 6 (100 * x + i)) : ∀ x, x < 8 → DP Λ np l w g0 (if x < p + 1 then t + 1 else t) D E2 x := fun x hx => by
  by_cases e : x = p
  · rw [e, if_pos (by omega)]; exact hp
  · have h9 := DP_fr (D2 := D) (E2 := E2) (fun f _ _ => rfl) (fun i _ => rfl) (hE x e) (hM x e) (h x hx)
    by_cases z : x < p
    · rw [if_pos z] at h9; rw [if_pos (by omega)]; exact h9
    · rw [if_neg z] at h9; rw [if_neg (by omega)]; exact h9
theorem D254 {d : Nat} {m : Mm} {Q : Option Value → Mm → Prop} {q g : Nat} {Λ Ψ E : Nat → Nat → Int32} {h : Int32} (hW : Wd m.2.2) (hN : NW m.2.2 q) (hq : va_rf (mR m 142 3) = .ref q) (h158 : 158 ≤ q) (hd : 2 ≤ d) (hg : g < 6) (hk : mI m (q + 2) g = Λ 3 g ∧ mI m (q + 4) g = Λ 4 g ∧ mI m (q + 5) g = Λ 5 g ∧ mI m (q + 6) g = Λ 6 g) (hv0 : mI m 145 0 = Ψ 0 1) (hQ : Q (some (.int (bi (inP Λ Ψ g h)))) (bput m 148 7 E)) : Cc d 0 0 254 [.ref 142, .int (nI g), .int h] (bput m 148 7 E) Q := by
  refine C254 (m := bput m 148 7 E) hW hN hq hd hg ?_
  rw [bput_hi (b := q + 2) (by omega), bput_hi (b := q + 5) (by omega), bput_hi (b := q + 6) (by omega), bput_lo (b := 145) (by decide), hk.1, hk.2.2.1, hk.2.2.2, hv0]
  exact hQ
theorem ldy_w {sc : Nat × (Nat → Int32)} {d : Nat} {m : Mm} {Q : Option Value → Mm → Prop} {q n np : Nat} {Λ Ψ : Nat → Nat → Int32} (hd : 6 ≤ d) (hW : Wd m.2.2) (hN : NW m.2.2 q) (hq : va_rf (mR m 142 3) = .ref q) (h158 : 158 ≤ q) (hnp8 : np ≤ 8) (hnp : mI m q 10 = nI np) (hpr : ∀ p, p < np → mI m (q + 10) p = Λ 9 (p * 7 + 0) ∧ mI m (q + 11) p = Λ 9 (p * 7 + 1) ∧ mI m (q + 12) p = Λ 9 (p * 7 + 2) ∧ mI m (q + 13) p = Λ 9 (p * 7 + 3) ∧ mI m (q + 14) p = Λ 9 (p * 7 + 4) ∧ mI m (q + 15) p = Λ 9 (p * 7 + 5) ∧ mI m (q + 16) p = Λ 9 (p * 7 + 6)) (hGN : ∀ p, p < np → iR (Λ 9 (p * 7 + 5)) 100 ∧ iR (Λ 9 (p * 7 + 6)) 100) (hso : ∀ c, c < 24 → mI m (q + 1) c = Λ 2 c) (hgd : ∀ g, g < n → mI m (q + 2) g = Λ 3 g ∧ mI m (q + 4) g = Λ 4 g ∧ mI m (q + 5) g = Λ 5 g ∧ mI m (q + 6) g = Λ 6 g) (hof : ∀ x, x < 180 → mI m (q + 7) x = Λ 7 x) (hba : ∀ g, g < 6 → mI m (q + 9) g = Λ 8 g) (hv1 : ∀ g, g < 6 → mI m 145 (1 + g) = Ψ 1 g) (hv2 : ∀ x, x < 36 → mI m 145 (7 + x) = Ψ 2 x) (hn6 : n ≤ 6) (hn : mI m q 6 = nI n) (hv0 : mI m 145 0 = Ψ 0 1) {Db : Nat → Nat → Int32} {g0 la : Nat} {l w gi : Int32} (hJ : JE Λ Ψ n np) (hla : la ≤ 95) (hgi : ¬ w = -nI 1 → gi = nI g0) (hQ : ∀ E0 E, DE Λ np l w g0 (la + 1) (hrQ Λ Ψ n Db (la + 1)) E0 → FW np E0 E → Q none (bput m 148 7 E)) {E0 : Nat → Nat → Int32} (hDE : DE Λ np l w g0 (la + 1) (hrQ Λ Ψ n Db (la + 1)) E0)  : ∀ (j p : Nat) (E : Nat → Nat → Int32), p ≤ np → np + 1 ≤ p + j → (FW p E0 E) → Jj sc d 0 0 (mth 270) (pg P270 98).1 [some (.ref 142), some (.int l), some (.int (nI la)), some (.int w), some (.int gi), some (.int (nI p)), none] [] (bput m 148 7 E) 0 0 Q := by
  intro j
  induction j with
  | zero => intro p E h1 h2 hall; omega
  | succ j ih =>
    intro p E h1 h2 hall
    refine J_w z270 (i := 98) (by decide) 282 ?_
    refine And.intro (Wdo_142 hW) (Exists.intro _ (And.intro hq ?_))
    refine And.intro (NWo_0 hN) ?_
    rw [bput_hi (m := m) (x := 148) (n := 7) (D := E) (b := q) (by omega)]
    rw [hnp]
    refine And.intro (fun cz102 => ?_) (fun cz102 => ?_)
    · -- 102 taken: nI np ≤ nI p
      have kz102 : np ≤ p := kle (a := np) (b := p) rfl rfl (by omega) (by omega) cz102
      refine And.intro ⟨rfl, rfl, Nat.le_refl _, Nat.le_refl _⟩ ?_
      rw [show p = np by omega] at hall
      exact hQ E0 E hDE hall
    · -- 102 not: ¬ nI np ≤ nI p
      have kz102 : p < np := knle (a := np) (b := p) rfl rfl (by omega) (by omega) cz102
      refine And.intro (Wdo_142 hW) (Exists.intro _ (And.intro (Wdr_142_23 hW) ?_))
      refine And.intro (Wdi_148 hW (vi rfl (by omega))) ?_
      rw [nI_clamp (show p < 2 ^ 31 by omega)]
      rw [bput_0 (x := 148) (by decide)]
      refine And.intro (fun cz108 => ?_) (fun cz108 => ?_)
      · -- 108 taken: E 0 p = -nI 1
        show Jj sc d 0 0 (mth 270) (pg P270 98).1 [some (.ref 142), some (.int l), some (.int (nI la)), some (.int w), some (.int gi), some (.int (nI p + nI 1)), none] [] (bput m 148 7 E) 0 0 Q
        rw [show nI p + nI 1 = nI (p + 1) from by simp only [nI_add, pk_mul]]
        exact ih (p + 1) _ (by omega) (by omega) (FW_k hall (fun z9 => z9.1 (by rw [← hall.1 0 (by decide)]; exact cz108)))
      · -- 108 not: ¬ E 0 p = -nI 1
        refine And.intro (Wdo_142 hW) (Exists.intro _ (And.intro (Wdr_142_25 hW) ?_))
        refine And.intro (Wdi_150 hW (vi rfl (by omega))) ?_
        rw [nI_clamp (show p < 2 ^ 31 by omega)]
        rw [bput_r (x := 148) (f := 2) (by decide)]
        refine And.intro (fun cz114 => ?_) (fun cz114 => ?_)
        · -- 114 taken: ¬ E 2 p = nI 2
          show Jj sc d 0 0 (mth 270) (pg P270 98).1 [some (.ref 142), some (.int l), some (.int (nI la)), some (.int w), some (.int gi), some (.int (nI p + nI 1)), none] [] (bput m 148 7 E) 0 0 Q
          rw [show nI p + nI 1 = nI (p + 1) from by simp only [nI_add, pk_mul]]
          exact ih (p + 1) _ (by omega) (by omega) (FW_k hall (fun z9 => cz114 (by rw [hall.1 2 (by decide)]; exact z9.2)))
        · -- 114 not: E 2 p = nI 2
          refine And.intro (Wdo_142 hW) (Exists.intro _ (And.intro (Wdr_142_27 hW) ?_))
          refine And.intro ⟨rfl, rfl⟩ ?_
          refine And.intro (Wdi_152 hW (vi rfl (by omega))) ?_
          rw [nI_clamp (show p < 2 ^ 31 by omega)]
          rw [bput_r (x := 148) (f := 4) (by decide)]
          refine And.intro (Wdo_142 hW) (Exists.intro _ (And.intro (Wdr_142_24 hW) ?_))
          refine And.intro (Wdi_149 hW (vi rfl (by omega))) ?_
          rw [nI_clamp (show p < 2 ^ 31 by omega)]
          rw [bput_r (x := 148) (f := 1) (by decide)]
          refine And.intro (Wdi_152 hW (vi rfl (by omega))) ?_
          rw [nI_clamp (show p < 2 ^ 31 by omega)]
          rw [bput_u (x := 148) (f := 4) (by decide)]
          show Jj sc d 0 0 (mth 270) (pg P270 98).1 [some (.ref 142), some (.int l), some (.int (nI la)), some (.int w), some (.int gi), some (.int (nI p + nI 1)), none] [] (bput m 148 7 (ud E 4 p ((E 4 p) + (nI 96 - (E 1 p))))) 0 0 Q
          rw [show nI p + nI 1 = nI (p + 1) from by simp only [nI_add, pk_mul]]
          exact ih (p + 1) _ (by omega) (by omega) (FW_u hall (by rw [← hall.1 0 (by decide)]; exact cz108) (by rw [← hall.1 2 (by decide)]; exact cz114))
theorem ldy_g {sc : Nat × (Nat → Int32)} {d : Nat} {m : Mm} {Q : Option Value → Mm → Prop} {q n np : Nat} {Λ Ψ : Nat → Nat → Int32} (hd : 6 ≤ d) (hW : Wd m.2.2) (hN : NW m.2.2 q) (hq : va_rf (mR m 142 3) = .ref q) (h158 : 158 ≤ q) (hnp8 : np ≤ 8) (hnp : mI m q 10 = nI np) (hpr : ∀ p, p < np → mI m (q + 10) p = Λ 9 (p * 7 + 0) ∧ mI m (q + 11) p = Λ 9 (p * 7 + 1) ∧ mI m (q + 12) p = Λ 9 (p * 7 + 2) ∧ mI m (q + 13) p = Λ 9 (p * 7 + 3) ∧ mI m (q + 14) p = Λ 9 (p * 7 + 4) ∧ mI m (q + 15) p = Λ 9 (p * 7 + 5) ∧ mI m (q + 16) p = Λ 9 (p * 7 + 6)) (hGN : ∀ p, p < np → iR (Λ 9 (p * 7 + 5)) 100 ∧ iR (Λ 9 (p * 7 + 6)) 100) (hso : ∀ c, c < 24 → mI m (q + 1) c = Λ 2 c) (hgd : ∀ g, g < n → mI m (q + 2) g = Λ 3 g ∧ mI m (q + 4) g = Λ 4 g ∧ mI m (q + 5) g = Λ 5 g ∧ mI m (q + 6) g = Λ 6 g) (hof : ∀ x, x < 180 → mI m (q + 7) x = Λ 7 x) (hba : ∀ g, g < 6 → mI m (q + 9) g = Λ 8 g) (hv1 : ∀ g, g < 6 → mI m 145 (1 + g) = Ψ 1 g) (hv2 : ∀ x, x < 36 → mI m 145 (7 + x) = Ψ 2 x) (hn6 : n ≤ 6) (hn : mI m q 6 = nI n) (hv0 : mI m 145 0 = Ψ 0 1) {Db : Nat → Nat → Int32} {g0 la : Nat} {l w gi : Int32} (hJ : JE Λ Ψ n np) (hla : la ≤ 95) (hgi : ¬ w = -nI 1 → gi = nI g0) (hQ : ∀ E0 E, DE Λ np l w g0 (la + 1) (hrQ Λ Ψ n Db (la + 1)) E0 → FW np E0 E → Q none (bput m 148 7 E)) {u : Nat} {D0 : Nat → Nat → Int32} (hu : u ≤ la) (hk : ∀ E, DE Λ np l w g0 (u + 1) (gdQ Λ Ψ D0 u n) E → Jj sc d 0 0 (mth 270) (pg P270 34).1 [some (.ref 142), some (.int l), some (.int (nI la)), some (.int w), some (.int gi), some (.int (nI (u + 1))), none] [] (bput m 148 7 E) 0 0 Q)  : ∀ (j g : Nat) (E : Nat → Nat → Int32), g ≤ n → n + 1 ≤ g + j → (DE Λ np l w g0 (u + 1) (gdQ Λ Ψ D0 u g) E) → Jj sc d 0 0 (mth 270) (pg P270 75).1 [some (.ref 142), some (.int l), some (.int (nI la)), some (.int w), some (.int gi), some (.int (nI u)), some (.int (nI g))] [] (bput m 148 7 E) 0 0 Q := by
  intro j
  induction j with
  | zero => intro g E h1 h2 hall; omega
  | succ j ih =>
    intro g E h1 h2 hall
    refine J_w z270 (i := 75) (by decide) 282 ?_
    refine And.intro (Wdo_142 hW) (Exists.intro _ (And.intro hq ?_))
    refine And.intro (NWo_0 hN) ?_
    rw [bput_hi (m := m) (x := 148) (n := 7) (D := E) (b := q) (by omega)]
    rw [hn]
    refine And.intro (fun cz79 => ?_) (fun cz79 => ?_)
    · -- 79 taken: nI n ≤ nI g
      have kz79 : n ≤ g := kle (a := n) (b := g) rfl rfl (by omega) (by omega) cz79
      show Jj sc d 0 0 (mth 270) (pg P270 34).1 [some (.ref 142), some (.int l), some (.int (nI la)), some (.int w), some (.int gi), some (.int (nI u + nI 1)), some (.int (nI g))] [] (bput m 148 7 E) 0 0 Q
      rw [show nI u + nI 1 = nI (u + 1) from by simp only [nI_add, pk_mul]]
      refine J_wk (L' := [some (.ref 142), some (.int l), some (.int (nI la)), some (.int w), some (.int gi), some (.int (nI (u + 1))), none]) ⟨rfl, rfl, rfl, rfl, rfl, rfl, trivial⟩ ?_
      rw [show g = n by omega] at hall
      exact hk E hall
    · -- 79 not: ¬ nI n ≤ nI g
      have kz79 : g < n := knle (a := n) (b := g) rfl rfl (by omega) (by omega) cz79
      refine And.intro (by decide) ?_
      refine And.intro ⟨by omega, Nat.le_of_ble_eq_true rfl, Nat.le_refl _, Nat.le_refl _⟩ (And.intro (Wdo_142 hW) ?_)
      refine D254 (Λ := Λ) (Ψ := Ψ) (g := g) (h := hm u) hW hN hq h158 (by omega) (by omega) (hgd g kz79) hv0 ?_
      show zw sc d 0 0 (mth 270).2.2.2.2.1 P270 (KJ sc d 0 0 (mth 270) P270 Q) Q 272 86 [some (.ref 142), some (.int l), some (.int (nI la)), some (.int w), some (.int gi), some (.int (nI u)), some (.int (nI g))] [.int (bi (inP Λ Ψ g (hm u)))] (bput m 148 7 E) 0 0
      refine And.intro (fun cz86 => ?_) (fun cz86 => ?_)
      · -- 86 taken: bi (inP Λ Ψ g (hm u)) = 0
        show Jj sc d 0 0 (mth 270) (pg P270 75).1 [some (.ref 142), some (.int l), some (.int (nI la)), some (.int w), some (.int gi), some (.int (nI u)), some (.int (nI g + nI 1))] [] (bput m 148 7 E) 0 0 Q
        rw [show nI g + nI 1 = nI (g + 1) from by simp only [nI_add, pk_mul]]
        refine ih (g + 1) _ (by omega) (by omega) ?_
        have ez9 : (gdQ Λ Ψ D0 u (g + 1)) = (gdQ Λ Ψ D0 u g) := by
          rw [gdQ_s]
          unfold gdS
          by_cases z9 : (gdQ Λ Ψ D0 u g) 0 11 ≤ 0
          · rw [if_pos z9]
          · rw [if_neg z9, if_pos cz86]
        rw [ez9]
        exact hall
      · -- 86 not: ¬ bi (inP Λ Ψ g (hm u)) = 0
        refine And.intro ⟨by omega, Nat.le_of_ble_eq_true rfl, Nat.le_refl _, Nat.le_refl _⟩ (And.intro (Wdo_142 hW) ?_)
        obtain ⟨n1, hn1, en1⟩ := hJ.2.2.1 g kz79
        refine D272 (n := n) (Λ := Λ) (Ψ := Ψ) (D := (gdQ Λ Ψ D0 u g)) (w := w) (g0 := g0) (h := u) (by omega) hW hN hq h158 hnp8 hnp hpr hGN hso hgd hof hba hv1 hv2 hn6 hJ kz79 (by omega) en1 hn1 (fun E1 hE1 => ?_) hall
        show zw sc d 0 0 (mth 270).2.2.2.2.1 P270 (KJ sc d 0 0 (mth 270) P270 Q) Q 266 92 [some (.ref 142), some (.int l), some (.int (nI la)), some (.int w), some (.int gi), some (.int (nI u)), some (.int (nI g))] [] (bput m 148 7 E1) 0 0
        show Jj sc d 0 0 (mth 270) (pg P270 75).1 [some (.ref 142), some (.int l), some (.int (nI la)), some (.int w), some (.int gi), some (.int (nI u)), some (.int (nI g + nI 1))] [] (bput m 148 7 E1) 0 0 Q
        rw [show nI g + nI 1 = nI (g + 1) from by simp only [nI_add, pk_mul]]
        refine ih (g + 1) _ (by omega) (by omega) ?_
        have ez9 : (gdQ Λ Ψ D0 u (g + 1)) = seQ Λ Ψ (gdQ Λ Ψ D0 u g) g u n1 := by
          rw [gdQ_s]
          unfold gdS
          by_cases z9 : (gdQ Λ Ψ D0 u g) 0 11 ≤ 0
          · rw [if_pos z9]
            exact (se_no hall.2.1 z9).symm
          · rw [if_neg z9, if_neg cz86, en1, nv_nI (by omega)]
        rw [ez9]
        exact hE1
theorem ldy_p {sc : Nat × (Nat → Int32)} {d : Nat} {m : Mm} {Q : Option Value → Mm → Prop} {q n np : Nat} {Λ Ψ : Nat → Nat → Int32} (hd : 6 ≤ d) (hW : Wd m.2.2) (hN : NW m.2.2 q) (hq : va_rf (mR m 142 3) = .ref q) (h158 : 158 ≤ q) (hnp8 : np ≤ 8) (hnp : mI m q 10 = nI np) (hpr : ∀ p, p < np → mI m (q + 10) p = Λ 9 (p * 7 + 0) ∧ mI m (q + 11) p = Λ 9 (p * 7 + 1) ∧ mI m (q + 12) p = Λ 9 (p * 7 + 2) ∧ mI m (q + 13) p = Λ 9 (p * 7 + 3) ∧ mI m (q + 14) p = Λ 9 (p * 7 + 4) ∧ mI m (q + 15) p = Λ 9 (p * 7 + 5) ∧ mI m (q + 16) p = Λ 9 (p * 7 + 6)) (hGN : ∀ p, p < np → iR (Λ 9 (p * 7 + 5)) 100 ∧ iR (Λ 9 (p * 7 + 6)) 100) (hso : ∀ c, c < 24 → mI m (q + 1) c = Λ 2 c) (hgd : ∀ g, g < n → mI m (q + 2) g = Λ 3 g ∧ mI m (q + 4) g = Λ 4 g ∧ mI m (q + 5) g = Λ 5 g ∧ mI m (q + 6) g = Λ 6 g) (hof : ∀ x, x < 180 → mI m (q + 7) x = Λ 7 x) (hba : ∀ g, g < 6 → mI m (q + 9) g = Λ 8 g) (hv1 : ∀ g, g < 6 → mI m 145 (1 + g) = Ψ 1 g) (hv2 : ∀ x, x < 36 → mI m 145 (7 + x) = Ψ 2 x) (hn6 : n ≤ 6) (hn : mI m q 6 = nI n) (hv0 : mI m 145 0 = Ψ 0 1) {Db : Nat → Nat → Int32} {g0 la : Nat} {l w gi : Int32} (hJ : JE Λ Ψ n np) (hla : la ≤ 95) (hgi : ¬ w = -nI 1 → gi = nI g0) (hQ : ∀ E0 E, DE Λ np l w g0 (la + 1) (hrQ Λ Ψ n Db (la + 1)) E0 → FW np E0 E → Q none (bput m 148 7 E)) {u : Nat} {D0 : Nat → Nat → Int32} (hu : u ≤ la) (hk : ∀ E, (∀ x, x < 8 → DP Λ np l w g0 (u + 1) D0 E x) → Jj sc d 0 0 (mth 270) (pg P270 75).1 [some (.ref 142), some (.int l), some (.int (nI la)), some (.int w), some (.int gi), some (.int (nI u)), some (.int (nI 0))] [] (bput m 148 7 E) 0 0 Q)  : ∀ (j p : Nat) (E : Nat → Nat → Int32), p ≤ np → np + 1 ≤ p + j → (∀ x, x < 8 → DP Λ np l w g0 (if x < p then u + 1 else u) D0 E x) → Jj sc d 0 0 (mth 270) (pg P270 39).1 [some (.ref 142), some (.int l), some (.int (nI la)), some (.int w), some (.int gi), some (.int (nI u)), some (.int (nI p))] [] (bput m 148 7 E) 0 0 Q := by
  intro j
  induction j with
  | zero => intro p E h1 h2 hall; omega
  | succ j ih =>
    intro p E h1 h2 hall
    refine J_w z270 (i := 39) (by decide) 282 ?_
    refine And.intro (Wdo_142 hW) (Exists.intro _ (And.intro hq ?_))
    refine And.intro (NWo_0 hN) ?_
    rw [bput_hi (m := m) (x := 148) (n := 7) (D := E) (b := q) (by omega)]
    rw [hnp]
    refine And.intro (fun cz43 => ?_) (fun cz43 => ?_)
    · -- 43 taken: nI np ≤ nI p
      have kz43 : np ≤ p := kle (a := np) (b := p) rfl rfl (by omega) (by omega) cz43
      show Jj sc d 0 0 (mth 270) (pg P270 75).1 [some (.ref 142), some (.int l), some (.int (nI la)), some (.int w), some (.int gi), some (.int (nI u)), some (.int (nI 0))] [] (bput m 148 7 E) 0 0 Q
      refine hk E (fun x hx => ?_)
      have h9 := hall x hx
      by_cases z9 : x < p
      · rw [if_pos z9] at h9; exact h9
      · rw [if_neg z9] at h9
        exact DP_wait hJ h9 (fun y9 => absurd y9.1.1 (by omega))
    · -- 43 not: ¬ nI np ≤ nI p
      have kz43 : p < np := knle (a := np) (b := p) rfl rfl (by omega) (by omega) cz43
      refine And.intro (Wdo_142 hW) (Exists.intro _ (And.intro hq ?_))
      refine And.intro (NWo_0 hN) (Exists.intro _ (And.intro (NWr_0_30 hN) ?_))
      refine And.intro (NWi_14 hN (vi rfl (by omega))) ?_
      rw [nI_clamp (show p < 2 ^ 31 by omega)]
      rw [bput_hi (m := m) (x := 148) (n := 7) (D := E) (b := (q + 14)) (by omega)]
      rw [((hpr p kz43).2.2.2.2.1)]
      refine And.intro (fun cz50 => ?_) (fun cz50 => ?_)
      · -- 50 taken: ¬ Λ 9 (p * 7 + 4) = nI u
        show Jj sc d 0 0 (mth 270) (pg P270 39).1 [some (.ref 142), some (.int l), some (.int (nI la)), some (.int w), some (.int gi), some (.int (nI u)), some (.int (nI p + nI 1))] [] (bput m 148 7 E) 0 0 Q
        rw [show nI p + nI 1 = nI (p + 1) from by simp only [nI_add, pk_mul]]
        have hdp := hall p (by omega)
        rw [if_neg (Nat.lt_irrefl p)] at hdp
        exact ih (p + 1) _ (by omega) (by omega) (AV_s hall (DP_wait hJ hdp (fun z9 => cz50 z9.2)) (fun _ _ _ _ => rfl) (fun _ _ _ _ => rfl))
      · -- 50 not: Λ 9 (p * 7 + 4) = nI u
        refine And.intro (fun cz53 => ?_) (fun cz53 => ?_)
        · -- 53 taken: w = -nI 1
          refine And.intro (fun cz61 => ?_) (fun cz61 => ?_)
          · -- 61 taken: ¬ w = -nI 1
            exact absurd cz53 cz61
          · -- 61 not: w = -nI 1
            refine And.intro (Wdo_142 hW) (Exists.intro _ (And.intro hq ?_))
            refine And.intro (NWo_0 hN) (Exists.intro _ (And.intro (NWr_0_29 hN) ?_))
            refine And.intro (NWi_13 hN (vi rfl (by omega))) ?_
            rw [nI_clamp (show p < 2 ^ 31 by omega)]
            rw [bput_hi (m := m) (x := 148) (n := 7) (D := E) (b := (q + 13)) (by omega)]
            rw [((hpr p kz43).2.2.2.1)]
            refine And.intro ⟨by omega, Nat.le_of_ble_eq_true rfl, Nat.le_refl _, Nat.le_refl _⟩ (And.intro (Wdo_142 hW) ?_)
            have hdp := hall p (by omega)
            rw [if_neg (Nat.lt_irrefl p)] at hdp
            have har := DP_arr (gv := (Λ 9 (p * 7 + 3))) hdp ⟨kz43, Or.inl cz53⟩ cz50 (by omega) (by unfold beG; rw [if_pos cz53]; exact iR_nv (hJ.1 p kz43).2.2.1 (by decide))
            refine D271 (E := E) (p := p) (kk := 0) hW (by omega) har.1 (by decide) ?_
            show zw sc d 0 0 (mth 270).2.2.2.2.1 P270 (KJ sc d 0 0 (mth 270) P270 Q) Q 255 71 [some (.ref 142), some (.int l), some (.int (nI la)), some (.int w), some (.int gi), some (.int (nI u)), some (.int (nI p))] [] (bput m 148 7 (coE E p (Λ 9 (p * 7 + 3)) (nI u) 0)) 0 0
            show Jj sc d 0 0 (mth 270) (pg P270 39).1 [some (.ref 142), some (.int l), some (.int (nI la)), some (.int w), some (.int gi), some (.int (nI u)), some (.int (nI p + nI 1))] [] (bput m 148 7 (coE E p (Λ 9 (p * 7 + 3)) (nI u) 0)) 0 0 Q
            rw [show nI p + nI 1 = nI (p + 1) from by simp only [nI_add, pk_mul]]
            exact ih (p + 1) _ (by omega) (by omega) (AV_s hall har.2 (fun x hx f hf => coE_o hx hf) (fun x hx i hi => upd_o (by omega)))
        · -- 53 not: ¬ w = -nI 1
          refine And.intro (fun cz56 => ?_) (fun cz56 => ?_)
          · -- 56 taken: ¬ w = nI p
            show Jj sc d 0 0 (mth 270) (pg P270 39).1 [some (.ref 142), some (.int l), some (.int (nI la)), some (.int w), some (.int gi), some (.int (nI u)), some (.int (nI p + nI 1))] [] (bput m 148 7 E) 0 0 Q
            rw [show nI p + nI 1 = nI (p + 1) from by simp only [nI_add, pk_mul]]
            have hdp := hall p (by omega)
            rw [if_neg (Nat.lt_irrefl p)] at hdp
            exact ih (p + 1) _ (by omega) (by omega) (AV_s hall (DP_wait hJ hdp (fun z9 => z9.1.2.elim cz53 cz56)) (fun _ _ _ _ => rfl) (fun _ _ _ _ => rfl))
          · -- 56 not: w = nI p
            refine And.intro (fun cz61 => ?_) (fun cz61 => ?_)
            · -- 61 taken: ¬ w = -nI 1
              refine And.intro ⟨by omega, Nat.le_of_ble_eq_true rfl, Nat.le_refl _, Nat.le_refl _⟩ (And.intro (Wdo_142 hW) ?_)
              have hdp := hall p (by omega)
              rw [if_neg (Nat.lt_irrefl p)] at hdp
              have har := DP_arr (gv := gi) hdp ⟨kz43, Or.inr cz56⟩ cz50 (by omega) (by unfold beG; rw [if_neg cz53]; exact hgi cz53)
              refine D271 (E := E) (p := p) (kk := 0) hW (by omega) har.1 (by decide) ?_
              show zw sc d 0 0 (mth 270).2.2.2.2.1 P270 (KJ sc d 0 0 (mth 270) P270 Q) Q 257 71 [some (.ref 142), some (.int l), some (.int (nI la)), some (.int w), some (.int gi), some (.int (nI u)), some (.int (nI p))] [] (bput m 148 7 (coE E p gi (nI u) 0)) 0 0
              show Jj sc d 0 0 (mth 270) (pg P270 39).1 [some (.ref 142), some (.int l), some (.int (nI la)), some (.int w), some (.int gi), some (.int (nI u)), some (.int (nI p + nI 1))] [] (bput m 148 7 (coE E p gi (nI u) 0)) 0 0 Q
              rw [show nI p + nI 1 = nI (p + 1) from by simp only [nI_add, pk_mul]]
              exact ih (p + 1) _ (by omega) (by omega) (AV_s hall har.2 (fun x hx f hf => coE_o hx hf) (fun x hx i hi => upd_o (by omega)))
            · -- 61 not: w = -nI 1
              exact absurd cz61 cz53
theorem ldy_t {sc : Nat × (Nat → Int32)} {d : Nat} {m : Mm} {Q : Option Value → Mm → Prop} {q n np : Nat} {Λ Ψ : Nat → Nat → Int32} (hd : 6 ≤ d) (hW : Wd m.2.2) (hN : NW m.2.2 q) (hq : va_rf (mR m 142 3) = .ref q) (h158 : 158 ≤ q) (hnp8 : np ≤ 8) (hnp : mI m q 10 = nI np) (hpr : ∀ p, p < np → mI m (q + 10) p = Λ 9 (p * 7 + 0) ∧ mI m (q + 11) p = Λ 9 (p * 7 + 1) ∧ mI m (q + 12) p = Λ 9 (p * 7 + 2) ∧ mI m (q + 13) p = Λ 9 (p * 7 + 3) ∧ mI m (q + 14) p = Λ 9 (p * 7 + 4) ∧ mI m (q + 15) p = Λ 9 (p * 7 + 5) ∧ mI m (q + 16) p = Λ 9 (p * 7 + 6)) (hGN : ∀ p, p < np → iR (Λ 9 (p * 7 + 5)) 100 ∧ iR (Λ 9 (p * 7 + 6)) 100) (hso : ∀ c, c < 24 → mI m (q + 1) c = Λ 2 c) (hgd : ∀ g, g < n → mI m (q + 2) g = Λ 3 g ∧ mI m (q + 4) g = Λ 4 g ∧ mI m (q + 5) g = Λ 5 g ∧ mI m (q + 6) g = Λ 6 g) (hof : ∀ x, x < 180 → mI m (q + 7) x = Λ 7 x) (hba : ∀ g, g < 6 → mI m (q + 9) g = Λ 8 g) (hv1 : ∀ g, g < 6 → mI m 145 (1 + g) = Ψ 1 g) (hv2 : ∀ x, x < 36 → mI m 145 (7 + x) = Ψ 2 x) (hn6 : n ≤ 6) (hn : mI m q 6 = nI n) (hv0 : mI m 145 0 = Ψ 0 1) {Db : Nat → Nat → Int32} {g0 la : Nat} {l w gi : Int32} (hJ : JE Λ Ψ n np) (hla : la ≤ 95) (hgi : ¬ w = -nI 1 → gi = nI g0) (hQ : ∀ E0 E, DE Λ np l w g0 (la + 1) (hrQ Λ Ψ n Db (la + 1)) E0 → FW np E0 E → Q none (bput m 148 7 E))  : ∀ (j u : Nat) (E : Nat → Nat → Int32), u ≤ la + 1 → la + 1 + 1 ≤ u + j → (DE Λ np l w g0 u (hrQ Λ Ψ n Db u) E) → Jj sc d 0 0 (mth 270) (pg P270 34).1 [some (.ref 142), some (.int l), some (.int (nI la)), some (.int w), some (.int gi), some (.int (nI u)), none] [] (bput m 148 7 E) 0 0 Q := by
  intro j
  induction j with
  | zero => intro u E h1 h2 hall; omega
  | succ j ih =>
    intro u E h1 h2 hall
    refine J_w z270 (i := 34) (by decide) 282 ?_
    refine And.intro (fun cz36 => ?_) (fun cz36 => ?_)
    · -- 36 taken: nI la < nI u
      have kz36 : la < u := klt (a := la) (b := u) rfl rfl (by omega) (by omega) cz36
      show Jj sc d 0 0 (mth 270) (pg P270 98).1 [some (.ref 142), some (.int l), some (.int (nI la)), some (.int w), some (.int gi), some (.int (nI 0)), none] [] (bput m 148 7 E) 0 0 Q
      rw [show u = la + 1 by omega] at hall
      exact ldy_w (by omega) hW hN hq h158 hnp8 hnp hpr hGN hso hgd hof hba hv1 hv2 hn6 hn hv0 hJ hla hgi hQ hall (np + 1) 0 E (Nat.zero_le _) (by omega) ⟨fun _ _ => rfl, fun x hx => absurd hx (by omega), fun _ _ => rfl⟩
    · -- 36 not: ¬ nI la < nI u
      have kz36 : u ≤ la := knlt (a := la) (b := u) rfl rfl (by omega) (by omega) cz36
      show Jj sc d 0 0 (mth 270) (pg P270 39).1 [some (.ref 142), some (.int l), some (.int (nI la)), some (.int w), some (.int gi), some (.int (nI u)), some (.int (nI 0))] [] (bput m 148 7 E) 0 0 Q
      have hrs := hrQ_s (Λ := Λ) (Ψ := Ψ) (n := n) (D := Db) (h := u)
      generalize (hrQ Λ Ψ n Db u) = D9 at hall hrs
      refine ldy_p (by omega) hW hN hq h158 hnp8 hnp hpr hGN hso hgd hof hba hv1 hv2 hn6 hn hv0 hJ hla hgi hQ (D0 := D9) kz36 (fun E1 h19 => ?_) (np + 1) 0 E (Nat.zero_le _) (by omega) (fun x hx => by rw [if_neg (Nat.not_lt_zero x)]; exact hall.1 x hx)
      have h0g : DE Λ np l w g0 (u + 1) (gdQ Λ Ψ D9 u 0) E1 := by
        rw [gdQ_0]
        exact ⟨h19, hall.2.1, hall.2.2⟩
      refine ldy_g (by omega) hW hN hq h158 hnp8 hnp hpr hGN hso hgd hof hba hv1 hv2 hn6 hn hv0 hJ hla hgi hQ (D0 := D9) kz36 (fun E2 h29 => ?_) (n + 1) 0 E1 (Nat.zero_le _) (by omega) h0g
      refine ih (u + 1) E2 (by omega) (by omega) ?_
      rw [hrs, hrS_e]
      exact DE_cq h29
theorem ldy_i {sc : Nat × (Nat → Int32)} {d : Nat} {m : Mm} {Q : Option Value → Mm → Prop} {q n np : Nat} {Λ Ψ : Nat → Nat → Int32} (hd : 6 ≤ d) (hW : Wd m.2.2) (hN : NW m.2.2 q) (hq : va_rf (mR m 142 3) = .ref q) (h158 : 158 ≤ q) (hnp8 : np ≤ 8) (hnp : mI m q 10 = nI np) (hpr : ∀ p, p < np → mI m (q + 10) p = Λ 9 (p * 7 + 0) ∧ mI m (q + 11) p = Λ 9 (p * 7 + 1) ∧ mI m (q + 12) p = Λ 9 (p * 7 + 2) ∧ mI m (q + 13) p = Λ 9 (p * 7 + 3) ∧ mI m (q + 14) p = Λ 9 (p * 7 + 4) ∧ mI m (q + 15) p = Λ 9 (p * 7 + 5) ∧ mI m (q + 16) p = Λ 9 (p * 7 + 6)) (hGN : ∀ p, p < np → iR (Λ 9 (p * 7 + 5)) 100 ∧ iR (Λ 9 (p * 7 + 6)) 100) (hso : ∀ c, c < 24 → mI m (q + 1) c = Λ 2 c) (hgd : ∀ g, g < n → mI m (q + 2) g = Λ 3 g ∧ mI m (q + 4) g = Λ 4 g ∧ mI m (q + 5) g = Λ 5 g ∧ mI m (q + 6) g = Λ 6 g) (hof : ∀ x, x < 180 → mI m (q + 7) x = Λ 7 x) (hba : ∀ g, g < 6 → mI m (q + 9) g = Λ 8 g) (hv1 : ∀ g, g < 6 → mI m 145 (1 + g) = Ψ 1 g) (hv2 : ∀ x, x < 36 → mI m 145 (7 + x) = Ψ 2 x) (hn6 : n ≤ 6) (hn : mI m q 6 = nI n) (hv0 : mI m 145 0 = Ψ 0 1) {Db : Nat → Nat → Int32} {g0 la : Nat} {l w gi : Int32} (hJ : JE Λ Ψ n np) (hla : la ≤ 95) (hgi : ¬ w = -nI 1 → gi = nI g0) (hQ : ∀ E0 E, DE Λ np l w g0 (la + 1) (hrQ Λ Ψ n Db (la + 1)) E0 → FW np E0 E → Q none (bput m 148 7 E)) (hDb : ∀ E, (∀ p, p < 8 → NE E p) → DE Λ np l w g0 0 Db E)  : ∀ (j p : Nat) (E : Nat → Nat → Int32), p ≤ 8 → 8 + 1 ≤ p + j → (∀ x, x < p → NE E x) → Jj sc d 0 0 (mth 270) (pg P270 2).1 [some (.ref 142), some (.int l), some (.int (nI la)), some (.int w), some (.int gi), some (.int (nI p)), none] [] (bput m 148 7 E) 0 0 Q := by
  intro j
  induction j with
  | zero => intro p E h1 h2 hall; omega
  | succ j ih =>
    intro p E h1 h2 hall
    refine J_w z270 (i := 2) (by decide) 282 ?_
    refine And.intro (fun cz4 => ?_) (fun cz4 => ?_)
    · -- 4 taken: nI 8 ≤ nI p
      have kz4 : 8 ≤ p := kle (a := 8) (b := p) rfl rfl (by omega) (by omega) cz4
      show Jj sc d 0 0 (mth 270) (pg P270 34).1 [some (.ref 142), some (.int l), some (.int (nI la)), some (.int w), some (.int gi), some (.int (nI 0)), none] [] (bput m 148 7 E) 0 0 Q
      rw [show p = 8 by omega] at hall
      exact ldy_t (by omega) hW hN hq h158 hnp8 hnp hpr hGN hso hgd hof hba hv1 hv2 hn6 hn hv0 hJ hla hgi hQ (la + 2) 0 E (Nat.zero_le _) (by omega) (hDb E hall)
    · -- 4 not: ¬ nI 8 ≤ nI p
      have kz4 : p < 8 := knle (a := 8) (b := p) rfl rfl (by omega) (by omega) cz4
      refine And.intro (Wdo_142 hW) (Exists.intro _ (And.intro (Wdr_142_23 hW) ?_))
      refine And.intro (Wdi_148 hW (vi rfl (by omega))) ?_
      rw [nI_clamp (show p < 2 ^ 31 by omega)]
      rw [bput_u0 (x := 148) (by decide)]
      refine And.intro (Wdo_142 hW) (Exists.intro _ (And.intro (Wdr_142_25 hW) ?_))
      refine And.intro (Wdi_150 hW (vi rfl (by omega))) ?_
      rw [nI_clamp (show p < 2 ^ 31 by omega)]
      rw [bput_u (x := 148) (f := 2) (by decide)]
      refine And.intro (Wdo_142 hW) (Exists.intro _ (And.intro (Wdr_142_26 hW) ?_))
      refine And.intro (Wdi_151 hW (vi rfl (by omega))) ?_
      rw [nI_clamp (show p < 2 ^ 31 by omega)]
      rw [bput_u (x := 148) (f := 3) (by decide)]
      refine And.intro (Wdo_142 hW) (Exists.intro _ (And.intro (Wdr_142_27 hW) ?_))
      refine And.intro (Wdi_152 hW (vi rfl (by omega))) ?_
      rw [nI_clamp (show p < 2 ^ 31 by omega)]
      rw [bput_u (x := 148) (f := 4) (by decide)]
      refine And.intro (Wdo_142 hW) (Exists.intro _ (And.intro (Wdr_142_28 hW) ?_))
      refine And.intro (Wdi_153 hW (vi rfl (by omega))) ?_
      rw [nI_clamp (show p < 2 ^ 31 by omega)]
      rw [bput_u (x := 148) (f := 5) (by decide)]
      show Jj sc d 0 0 (mth 270) (pg P270 2).1 [some (.ref 142), some (.int l), some (.int (nI la)), some (.int w), some (.int gi), some (.int (nI p + nI 1)), none] [] (bput m 148 7 (ud (ud (ud (ud (ud E 0 p (-nI 1)) 2 p (nI 2)) 3 p (-nI 2)) 4 p (nI 0)) 5 p (nI 0))) 0 0 Q
      rw [show nI p + nI 1 = nI (p + 1) from by simp only [nI_add, pk_mul]]
      refine ih (p + 1) _ (by omega) (by omega) (fun x hx => ?_)
      by_cases z9 : x = p
      · rw [z9]
        exact ⟨upd_e, upd_e, upd_e, upd_e, upd_e⟩
      · have h9 := hall x (by omega)
        exact ⟨(upd_o z9).trans h9.1, (upd_o z9).trans h9.2.1, (upd_o z9).trans h9.2.2.1, (upd_o z9).trans h9.2.2.2.1, (upd_o z9).trans h9.2.2.2.2⟩
theorem D270 {d : Nat} {m : Mm} {Q : Option Value → Mm → Prop} {q n np : Nat} {Λ Ψ : Nat → Nat → Int32} (hd : 6 ≤ d) (hW : Wd m.2.2) (hN : NW m.2.2 q) (hq : va_rf (mR m 142 3) = .ref q) (h158 : 158 ≤ q) (hnp8 : np ≤ 8) (hnp : mI m q 10 = nI np) (hpr : ∀ p, p < np → mI m (q + 10) p = Λ 9 (p * 7 + 0) ∧ mI m (q + 11) p = Λ 9 (p * 7 + 1) ∧ mI m (q + 12) p = Λ 9 (p * 7 + 2) ∧ mI m (q + 13) p = Λ 9 (p * 7 + 3) ∧ mI m (q + 14) p = Λ 9 (p * 7 + 4) ∧ mI m (q + 15) p = Λ 9 (p * 7 + 5) ∧ mI m (q + 16) p = Λ 9 (p * 7 + 6)) (hGN : ∀ p, p < np → iR (Λ 9 (p * 7 + 5)) 100 ∧ iR (Λ 9 (p * 7 + 6)) 100) (hso : ∀ c, c < 24 → mI m (q + 1) c = Λ 2 c) (hgd : ∀ g, g < n → mI m (q + 2) g = Λ 3 g ∧ mI m (q + 4) g = Λ 4 g ∧ mI m (q + 5) g = Λ 5 g ∧ mI m (q + 6) g = Λ 6 g) (hof : ∀ x, x < 180 → mI m (q + 7) x = Λ 7 x) (hba : ∀ g, g < 6 → mI m (q + 9) g = Λ 8 g) (hv1 : ∀ g, g < 6 → mI m 145 (1 + g) = Ψ 1 g) (hv2 : ∀ x, x < 36 → mI m 145 (7 + x) = Ψ 2 x) (hn6 : n ≤ 6) (hn : mI m q 6 = nI n) (hv0 : mI m 145 0 = Ψ 0 1) {Db : Nat → Nat → Int32} {g0 la : Nat} {l w gi : Int32} (hJ : JE Λ Ψ n np) (hla : la ≤ 95) (hgi : ¬ w = -nI 1 → gi = nI g0) (hQ : ∀ E0 E, DE Λ np l w g0 (la + 1) (hrQ Λ Ψ n Db (la + 1)) E0 → FW np E0 E → Q none (bput m 148 7 E)) (hDb : ∀ E, (∀ p, p < 8 → NE E p) → DE Λ np l w g0 0 Db E) {E : Nat → Nat → Int32}  : Cc d 0 0 270 [.ref 142, .int l, .int (nI la), .int w, .int gi] (bput m 148 7 E) Q := by
  refine ent (n := 282) z270 (by decide) rfl (by decide) (Nat.le_of_ble_eq_true rfl) (fun sc => ?_)
  show Jj sc d 0 0 (mth 270) (pg P270 2).1 [some (.ref 142), some (.int l), some (.int (nI la)), some (.int w), some (.int gi), some (.int (nI 0)), none] [] (bput m 148 7 E) 0 0 Q
  exact ldy_i (by omega) hW hN hq h158 hnp8 hnp hpr hGN hso hgd hof hba hv1 hv2 hn6 hn hv0 hJ hla hgi hQ hDb 9 0 E (by decide) (by decide) (fun _ h => absurd h (by omega))
