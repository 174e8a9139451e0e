theorem D276 {d : Nat} {m : Mm} {Q : Option Value → Mm → Prop} {q n np : Nat} {Λ Ψ : Nat → Nat → Int32} (hd : 3 ≤ d) (hW : Wd m.2.2) (hN : NW m.2.2 q) (hq : va_rf (mR m 142 3) = .ref q) (h158 : 158 ≤ q) (hnp8 : np ≤ 8) (hnp : mI m q 10 = nI np) (hpr : ∀ p, p < np → mI m (q + 10) p = Λ 9 (p * 7 + 0) ∧ mI m (q + 11) p = Λ 9 (p * 7 + 1) ∧ mI m (q + 12) p = Λ 9 (p * 7 + 2) ∧ mI m (q + 13) p = Λ 9 (p * 7 + 3) ∧ mI m (q + 14) p = Λ 9 (p * 7 + 4) ∧ mI m (q + 15) p = Λ 9 (p * 7 + 5) ∧ mI m (q + 16) p = Λ 9 (p * 7 + 6)) (hGN : ∀ p, p < np → iR (Λ 9 (p * 7 + 5)) 100 ∧ iR (Λ 9 (p * 7 + 6)) 100) (hso : ∀ c, c < 24 → mI m (q + 1) c = Λ 2 c) (hgd : ∀ g, g < n → mI m (q + 2) g = Λ 3 g ∧ mI m (q + 4) g = Λ 4 g ∧ mI m (q + 5) g = Λ 5 g ∧ mI m (q + 6) g = Λ 6 g) (hof : ∀ x, x < 180 → mI m (q + 7) x = Λ 7 x) (hba : ∀ g, g < 6 → mI m (q + 9) g = Λ 8 g) (hv1 : ∀ g, g < 6 → mI m 145 (1 + g) = Ψ 1 g) (hv2 : ∀ x, x < 36 → mI m 145 (7 + x) = Ψ 2 x) (hn6 : n ≤ 6) {D E : Nat → Nat → Int32} {p g kk bv : Nat} (hp : p < np) (hg : g < n) (h3 : D 3 p = Λ 9 (p * 7 + 2)) (hk0 : 0 < kk) (hk97 : kk ≤ 97) (ek : E 5 p = nI kk) (hb64 : bv < 64) (eb : D 9 p = nI bv) (hAL : ALs D E p kk bv) {tt cc ss : Nat} (et : Λ 9 (p * 7 + 0) = nI tt) (ht6 : tt < 6) (ecc : Λ 9 (p * 7 + 1) = nI cc) (hcc : cc < 24) (ess : Λ 2 cc = nI ss) (hss : ss < 5) {h : Nat} (hQ : Q none (bput m 148 7 (sdF Λ Ψ D E p g h kk)))  : Cc d 0 0 276 [.ref 142, .int (nI p), .int (nI g), .int (nI h)] (bput m 148 7 E) Q := by
  refine ent (n := 168) z276 (by decide) rfl (by decide) (Nat.le_of_ble_eq_true rfl) (fun sc => ?_)
  refine And.intro (Wdo_142 hW) (Exists.intro _ (And.intro (Wdr_142_27 hW) ?_))
  refine And.intro ⟨rfl, rfl⟩ ?_
  refine And.intro (Wdi_152 hW (vi rfl (by omega))) ?_
  rw [nI_clamp (show p < 2 ^ 31 by omega)]
  rw [bput_r (x := 148) (f := 4) (by decide)]
  refine And.intro (Wdo_142 hW) (Exists.intro _ (And.intro (Wdr_142_24 hW) ?_))
  refine And.intro (Wdi_149 hW (vi rfl (by omega))) ?_
  rw [nI_clamp (show p < 2 ^ 31 by omega)]
  rw [bput_r (x := 148) (f := 1) (by decide)]
  refine And.intro (Wdi_152 hW (vi rfl (by omega))) ?_
  rw [nI_clamp (show p < 2 ^ 31 by omega)]
  rw [bput_u (x := 148) (f := 4) (by decide)]
  refine And.intro (Wdo_142 hW) (Exists.intro _ (And.intro (Wdr_142_18 hW) ?_))
  refine And.intro (Wdo_142 hW) (Exists.intro _ (And.intro hq ?_))
  refine And.intro (NWo_0 hN) (Exists.intro _ (And.intro (NWr_0_26 hN) ?_))
  refine And.intro (NWi_10 hN (vi rfl (by omega))) ?_
  rw [nI_clamp (show p < 2 ^ 31 by omega)]
  rw [bput_hi (m := m) (x := 148) (n := 7) (D := (ud E 4 p ((E 4 p) + (nI h - (E 1 p))))) (b := (q + 10)) (by omega)]
  rw [((hpr p hp).1.trans et)]
  refine And.intro (Wdi_145 hW (vi (show nI 7 + nI 6 * nI g + nI tt = nI (7 + (g * 6 + tt)) by rw [show 7 + (g * 6 + tt) = 7 + 6 * g + tt by omega]; simp only [nI_add, pk_mul]) (by omega))) ?_
  rw [vc (show nI 7 + nI 6 * nI g + nI tt = nI (7 + (g * 6 + tt)) by rw [show 7 + (g * 6 + tt) = 7 + 6 * g + tt by omega]; simp only [nI_add, pk_mul]) (by omega)]
  rw [bput_lo (m := m) (x := 148) (n := 7) (D := (ud E 4 p ((E 4 p) + (nI h - (E 1 p))))) (b := 145) (by omega)]
  rw [(hv2 _ (by omega))]
  refine And.intro ⟨by omega, Nat.le_of_ble_eq_true rfl, Nat.le_refl _, Nat.le_refl _⟩ (And.intro (Wdo_142 hW) ?_)
  refine D275 (n := n) (Ψ := Ψ) (D := D) (kk := kk) (bv := bv) (by omega) hW hN hq h158 hnp8 hnp hpr hGN hso hgd hof hba hv1 hv2 hn6 hp hg h3 hk0 hk97 ek hb64 eb hAL et ht6 ecc hcc ess hss ?_
  refine And.intro (fun cz32 => ?_) (fun cz32 => ?_)
  · -- 32 taken: gnF (Λ 9) (Λ 7) (Λ 3) (Λ 8) (Ψ 1) (D 3) (D 9) p g ss tt = 0
    refine And.intro (fun cz46 => ?_) (fun cz46 => ?_)
    · -- 46 taken: Ψ 2 (g * 6 + tt) = -nI 2
      refine And.intro (Wdo_142 hW) (Exists.intro _ (And.intro (Wdr_142_25 hW) ?_))
      refine And.intro (Wdi_150 hW (vi rfl (by omega))) ?_
      rw [nI_clamp (show p < 2 ^ 31 by omega)]
      rw [bput_u (x := 148) (f := 2) (by decide)]
      refine And.intro (Wdo_142 hW) (Exists.intro _ (And.intro (Wdr_142_26 hW) ?_))
      refine And.intro (Wdi_151 hW (vi rfl (by omega))) ?_
      rw [nI_clamp (show p < 2 ^ 31 by omega)]
      rw [bput_u (x := 148) (f := 3) (by decide)]
      refine And.intro ⟨rfl, rfl, Nat.le_refl _, Nat.le_refl _⟩ ?_
      have hgF : graF Λ Ψ D p g = gnF (Λ 9) (Λ 7) (Λ 3) (Λ 8) (Ψ 1) (D 3) (D 9) p g ss tt := by
        unfold graF sOf tOf
        rw [et, ecc, nv_nI (show tt < 2 ^ 31 by omega), nv_nI (show cc < 2 ^ 31 by omega), ess, nv_nI (show ss < 2 ^ 31 by omega)]
      unfold sdF at hQ
      rw [hgF] at hQ
      have hgo : goF Λ Ψ p g = -nI 2 := by
        unfold goF onF tOf
        rw [et, nv_nI (show tt < 2 ^ 31 by omega), if_pos cz46]
      rw [if_pos cz32, if_pos hgo] at hQ
      exact hQ
    · -- 46 not: ¬ Ψ 2 (g * 6 + tt) = -nI 2
      refine And.intro (Wdo_142 hW) (Exists.intro _ (And.intro hq ?_))
      refine And.intro (NWo_0 hN) (Exists.intro _ (And.intro (NWr_0_25 hN) ?_))
      refine And.intro (NWi_9 hN (vi rfl (by omega))) ?_
      rw [nI_clamp (show g < 2 ^ 31 by omega)]
      rw [bput_hi (m := m) (x := 148) (n := 7) (D := (ud E 4 p ((E 4 p) + (nI h - (E 1 p))))) (b := (q + 9)) (by omega)]
      rw [(hba g (by omega))]
      refine And.intro ⟨by omega, Nat.le_of_ble_eq_true rfl, Nat.le_refl _, Nat.le_refl _⟩ ?_
      refine C205 (m := (bput m 148 7 (ud E 4 p ((E 4 p) + (nI h - (E 1 p)))))) ?_
      refine And.intro (fun cz54 => ?_) (fun cz54 => ?_)
      · -- 54 taken: bi (bq (Λ 8 g) (Ψ 2 (g * 6 + tt))) = 0
        refine And.intro ⟨by omega, Nat.le_of_ble_eq_true rfl, Nat.le_refl _, Nat.le_refl _⟩ (And.intro (Wdo_142 hW) ?_)
        refine D271 (E := (ud E 4 p ((E 4 p) + (nI h - (E 1 p))))) (p := p) (kk := kk) hW (by omega) ek (by omega) ?_
        refine And.intro ⟨rfl, rfl, Nat.le_refl _, Nat.le_refl _⟩ ?_
        have hgF : graF Λ Ψ D p g = gnF (Λ 9) (Λ 7) (Λ 3) (Λ 8) (Ψ 1) (D 3) (D 9) p g ss tt := by
          unfold graF sOf tOf
          rw [et, ecc, nv_nI (show tt < 2 ^ 31 by omega), nv_nI (show cc < 2 ^ 31 by omega), ess, nv_nI (show ss < 2 ^ 31 by omega)]
        unfold sdF at hQ
        rw [hgF] at hQ
        have hgo : goF Λ Ψ p g = Ψ 2 (g * 6 + tt) := by
          unfold goF onF tOf
          rw [et, nv_nI (show tt < 2 ^ 31 by omega), if_neg cz46, if_neg (bi_eq0.mp cz54)]
        rw [if_pos cz32, hgo, if_neg cz46] at hQ
        exact hQ
      · -- 54 not: ¬ bi (bq (Λ 8 g) (Ψ 2 (g * 6 + tt))) = 0
        refine And.intro (Wdo_142 hW) (Exists.intro _ (And.intro (Wdr_142_25 hW) ?_))
        refine And.intro (Wdi_150 hW (vi rfl (by omega))) ?_
        rw [nI_clamp (show p < 2 ^ 31 by omega)]
        rw [bput_u (x := 148) (f := 2) (by decide)]
        refine And.intro (Wdo_142 hW) (Exists.intro _ (And.intro (Wdr_142_26 hW) ?_))
        refine And.intro (Wdi_151 hW (vi rfl (by omega))) ?_
        rw [nI_clamp (show p < 2 ^ 31 by omega)]
        rw [bput_u (x := 148) (f := 3) (by decide)]
        refine And.intro ⟨rfl, rfl, Nat.le_refl _, Nat.le_refl _⟩ ?_
        have hgF : graF Λ Ψ D p g = gnF (Λ 9) (Λ 7) (Λ 3) (Λ 8) (Ψ 1) (D 3) (D 9) p g ss tt := by
          unfold graF sOf tOf
          rw [et, ecc, nv_nI (show tt < 2 ^ 31 by omega), nv_nI (show cc < 2 ^ 31 by omega), ess, nv_nI (show ss < 2 ^ 31 by omega)]
        unfold sdF at hQ
        rw [hgF] at hQ
        have hgo : goF Λ Ψ p g = -nI 2 := by
          unfold goF onF tOf
          rw [et, nv_nI (show tt < 2 ^ 31 by omega), if_neg cz46, if_pos (bi_ne0.mp cz54)]
        rw [if_pos cz32, if_pos hgo] at hQ
        exact hQ
  · -- 32 not: ¬ gnF (Λ 9) (Λ 7) (Λ 3) (Λ 8) (Ψ 1) (D 3) (D 9) p g ss tt = 0
    refine And.intro (Wdo_142 hW) (Exists.intro _ (And.intro (Wdr_142_25 hW) ?_))
    refine And.intro (Wdi_150 hW (vi rfl (by omega))) ?_
    rw [nI_clamp (show p < 2 ^ 31 by omega)]
    rw [bput_u (x := 148) (f := 2) (by decide)]
    refine And.intro (Wdo_142 hW) (Exists.intro _ (And.intro (Wdr_142_26 hW) ?_))
    refine And.intro (Wdi_151 hW (vi rfl (by omega))) ?_
    rw [nI_clamp (show p < 2 ^ 31 by omega)]
    rw [bput_u (x := 148) (f := 3) (by decide)]
    refine And.intro ⟨rfl, rfl, Nat.le_refl _, Nat.le_refl _⟩ ?_
    have hgF : graF Λ Ψ D p g = gnF (Λ 9) (Λ 7) (Λ 3) (Λ 8) (Ψ 1) (D 3) (D 9) p g ss tt := by
      unfold graF sOf tOf
      rw [et, ecc, nv_nI (show tt < 2 ^ 31 by omega), nv_nI (show cc < 2 ^ 31 by omega), ess, nv_nI (show ss < 2 ^ 31 by omega)]
    unfold sdF at hQ
    rw [hgF] at hQ
    rw [if_neg cz32] at hQ
    exact hQ
theorem lsv {sc : Nat × (Nat → Int32)} {d : Nat} {m : Mm} {Q : Option Value → Mm → Prop} {q n np : Nat} {Λ Ψ : Nat → Nat → Int32} (hd : 4 ≤ d) (hW : Wd m.2.2) (hN : NW m.2.2 q) (hq : va_rf (mR m 142 3) = .ref q) (h158 : 158 ≤ q) (hnp8 : np ≤ 8) (hnp : mI m q 10 = nI np) (hpr : ∀ p, p < np → mI m (q + 10) p = Λ 9 (p * 7 + 0) ∧ mI m (q + 11) p = Λ 9 (p * 7 + 1) ∧ mI m (q + 12) p = Λ 9 (p * 7 + 2) ∧ mI m (q + 13) p = Λ 9 (p * 7 + 3) ∧ mI m (q + 14) p = Λ 9 (p * 7 + 4) ∧ mI m (q + 15) p = Λ 9 (p * 7 + 5) ∧ mI m (q + 16) p = Λ 9 (p * 7 + 6)) (hGN : ∀ p, p < np → iR (Λ 9 (p * 7 + 5)) 100 ∧ iR (Λ 9 (p * 7 + 6)) 100) (hso : ∀ c, c < 24 → mI m (q + 1) c = Λ 2 c) (hgd : ∀ g, g < n → mI m (q + 2) g = Λ 3 g ∧ mI m (q + 4) g = Λ 4 g ∧ mI m (q + 5) g = Λ 5 g ∧ mI m (q + 6) g = Λ 6 g) (hof : ∀ x, x < 180 → mI m (q + 7) x = Λ 7 x) (hba : ∀ g, g < 6 → mI m (q + 9) g = Λ 8 g) (hv1 : ∀ g, g < 6 → mI m 145 (1 + g) = Ψ 1 g) (hv2 : ∀ x, x < 36 → mI m 145 (7 + x) = Ψ 2 x) (hn6 : n ≤ 6) {D : Nat → Nat → Int32} {g h g0 n1 : Nat} {l w : Int32} (hJ : JE Λ Ψ n np) (hg : g < n) (hh : h ≤ 95) (en1 : Λ 4 g = nI n1) (hn1 : n1 < 10) (hQ : ∀ E, DE Λ np l w g0 (h + 1) (seQ Λ Ψ D g h n1) E → Q none (bput m 148 7 E))  : ∀ (j i : Nat) (E : Nat → Nat → Int32), i ≤ n1 → n1 + 1 ≤ i + j → (DE Λ np l w g0 (h + 1) (seQ Λ Ψ D g h i) E) → Jj sc d 0 0 (mth 272) (pg P272 2).1 [some (.ref 142), some (.int (nI g)), some (.int (nI h)), some (.int l), some (.int (nI i)), none] [] (bput m 148 7 E) 0 0 Q := by
  intro j
  induction j with
  | zero => intro i E h1 h2 hall; omega
  | succ j ih =>
    intro i E h1 h2 hall
    refine J_w z272 (i := 2) (by decide) 74 ?_
    refine And.intro (Wdo_142 hW) (Exists.intro _ (And.intro hq ?_))
    refine And.intro (NWo_0 hN) (Exists.intro _ (And.intro (NWr_0_20 hN) ?_))
    refine And.intro (NWi_4 hN (vi rfl (by omega))) ?_
    rw [nI_clamp (show g < 2 ^ 31 by omega)]
    rw [bput_hi (m := m) (x := 148) (n := 7) (D := E) (b := (q + 4)) (by omega)]
    rw [((hgd g hg).2.1.trans en1)]
    refine And.intro (fun cz8 => ?_) (fun cz8 => ?_)
    · -- 8 taken: nI n1 ≤ nI i
      have kz8 : n1 ≤ i := kle (a := n1) (b := i) rfl rfl (by omega) (by omega) cz8
      refine And.intro ⟨rfl, rfl, Nat.le_refl _, Nat.le_refl _⟩ ?_
      rw [show i = n1 by omega] at hall
      exact hQ E hall
    · -- 8 not: ¬ nI n1 ≤ nI i
      have kz8 : i < n1 := knle (a := n1) (b := i) rfl rfl (by omega) (by omega) cz8
      refine And.intro ⟨by omega, Nat.le_of_ble_eq_true rfl, Nat.le_refl _, Nat.le_refl _⟩ (And.intro (Wdo_142 hW) ?_)
      refine D273 (n := n) (Ψ := Ψ) (D := (seQ Λ Ψ D g h i)) (w := w) (g0 := g0) (by omega) hW hN hq h158 hnp8 hnp hpr hGN hJ (by omega) hh hall ?_
      refine And.intro (fun cz17 => ?_) (fun cz17 => ?_)
      · -- 17 taken: ¬ ec (foF (seQ Λ Ψ D g h i) g h) = -nI 1
        refine And.intro ⟨by omega, Nat.le_of_ble_eq_true rfl, Nat.le_refl _, Nat.le_refl _⟩ (And.intro (Wdo_142 hW) ?_)
        have hf8 : foF (seQ Λ Ψ D g h i) g h < 8 := Classical.byContradiction (fun y => cz17 (ec_n.mpr y))
        obtain ⟨kk, hk8, hk97, hd1, hd5, hpr9, hd3, hAR, hDE9⟩ := DE_ju hJ hh (by omega) hall hf8
        rw [ec_lt hf8]
        obtain ⟨-, -, -, -, -, ae5, kz9, bv, hk0, hkk97, ek9, hb64, eb9, hAL⟩ := hAR
        have ekk : kz9 = kk := (nI_eq (by omega) (by omega)).mp (ek9.symm.trans hk8)
        subst ekk
        have hnp9 : foF (seQ Λ Ψ D g h i) g h < np := hpr9.1
        obtain ⟨⟨tt, ht6, et⟩, ⟨cc, hcc, ecc⟩, -⟩ := hJ.1 _ hnp9
        obtain ⟨ss, hss, ess⟩ := hJ.2.1 cc hcc (by omega)
        refine D276 (n := n) (Λ := Λ) (Ψ := Ψ) (D := (seQ Λ Ψ D g h i)) (p := foF (seQ Λ Ψ D g h i) g h) (kk := kz9) (bv := bv) (by omega) hW hN hq h158 hnp8 hnp hpr hGN hso hgd hof hba hv1 hv2 hn6 hnp9 hg hd3 hk0 hkk97 (ae5.trans ek9) hb64 eb9 hAL et ht6 ecc hcc ess hss ?_
        show Jj sc d 0 0 (mth 272) (pg P272 2).1 [some (.ref 142), some (.int (nI g)), some (.int (nI h)), some (.int l), some (.int (nI i + nI 1)), some (.int (nI ((foF (seQ Λ Ψ D g h i) g h))))] [] (bput m 148 7 (sdF Λ Ψ (seQ Λ Ψ D g h i) E (foF (seQ Λ Ψ D g h i) g h) g h kz9)) 0 0 Q
        rw [show nI i + nI 1 = nI (i + 1) from by simp only [nI_add, pk_mul]]
        refine J_wk (L' := [some (.ref 142), some (.int (nI g)), some (.int (nI h)), some (.int l), some (.int (nI (i + 1))), none]) ⟨rfl, rfl, rfl, rfl, rfl, trivial⟩ ?_
        refine ih (i + 1) _ (by omega) (by omega) ?_
        rw [seQ_s]
        unfold seS
        rw [if_pos hf8]
        exact hDE9
      · -- 17 not: ec (foF (seQ Λ Ψ D g h i) g h) = -nI 1
        refine And.intro ⟨rfl, rfl, Nat.le_refl _, Nat.le_refl _⟩ ?_
        have ez9 := seQ_n (Λ := Λ) (Ψ := Ψ) (D := D) (g := g) (h := h) (i := i) (ec_n.mp cz17) (n1 - i)
        rw [show i + (n1 - i) = n1 by omega] at ez9
        rw [← ez9] at hall
        exact hQ E hall
theorem D272 {d : Nat} {m : Mm} {Q : Option Value → Mm → Prop} {q n np : Nat} {Λ Ψ : Nat → Nat → Int32} (hd : 4 ≤ d) (hW : Wd m.2.2) (hN : NW m.2.2 q) (hq : va_rf (mR m 142 3) = .ref q) (h158 : 158 ≤ q) (hnp8 : np ≤ 8) (hnp : mI m q 10 = nI np) (hpr : ∀ p, p < np → mI m (q + 10) p = Λ 9 (p * 7 + 0) ∧ mI m (q + 11) p = Λ 9 (p * 7 + 1) ∧ mI m (q + 12) p = Λ 9 (p * 7 + 2) ∧ mI m (q + 13) p = Λ 9 (p * 7 + 3) ∧ mI m (q + 14) p = Λ 9 (p * 7 + 4) ∧ mI m (q + 15) p = Λ 9 (p * 7 + 5) ∧ mI m (q + 16) p = Λ 9 (p * 7 + 6)) (hGN : ∀ p, p < np → iR (Λ 9 (p * 7 + 5)) 100 ∧ iR (Λ 9 (p * 7 + 6)) 100) (hso : ∀ c, c < 24 → mI m (q + 1) c = Λ 2 c) (hgd : ∀ g, g < n → mI m (q + 2) g = Λ 3 g ∧ mI m (q + 4) g = Λ 4 g ∧ mI m (q + 5) g = Λ 5 g ∧ mI m (q + 6) g = Λ 6 g) (hof : ∀ x, x < 180 → mI m (q + 7) x = Λ 7 x) (hba : ∀ g, g < 6 → mI m (q + 9) g = Λ 8 g) (hv1 : ∀ g, g < 6 → mI m 145 (1 + g) = Ψ 1 g) (hv2 : ∀ x, x < 36 → mI m 145 (7 + x) = Ψ 2 x) (hn6 : n ≤ 6) {D : Nat → Nat → Int32} {g h g0 n1 : Nat} {l w : Int32} (hJ : JE Λ Ψ n np) (hg : g < n) (hh : h ≤ 95) (en1 : Λ 4 g = nI n1) (hn1 : n1 < 10) (hQ : ∀ E, DE Λ np l w g0 (h + 1) (seQ Λ Ψ D g h n1) E → Q none (bput m 148 7 E)) {E : Nat → Nat → Int32} (hDE : DE Λ np l w g0 (h + 1) D E)  : Cc d 0 0 272 [.ref 142, .int (nI g), .int (nI h), .int l] (bput m 148 7 E) Q := by
  refine ent (n := 74) z272 (by decide) rfl (by decide) (Nat.le_of_ble_eq_true rfl) (fun sc => ?_)
  show Jj sc d 0 0 (mth 272) (pg P272 2).1 [some (.ref 142), some (.int (nI g)), some (.int (nI h)), some (.int l), some (.int (nI 0)), none] [] (bput m 148 7 E) 0 0 Q
  exact lsv (by omega) hW hN hq h158 hnp8 hnp hpr hGN hso hgd hof hba hv1 hv2 hn6 hJ hg hh en1 hn1 hQ (n1 + 1) 0 E (Nat.zero_le _) (by omega) hDE
