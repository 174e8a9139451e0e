theorem foQ_np {D : Nat → Nat → Int32} {g h np : Nat} (hz : ∀ p, np ≤ p → p < 8 → stF (D 1) (D 5) (D 6) p (nI g) (nI h) = 0) : ∀ j, np + j ≤ 8 → foQ D g h (np + j) = foQ D g h np
  | 0, _ => rfl
  | j + 1, hj => by
    rw [← Nat.add_assoc, foQ_s]
    unfold foS
    rw [if_pos (hz (np + j) (by omega) (by omega))]
    exact foQ_np hz j (by omega)
theorem b1_e : ∀ v, v < 64 → ∀ g, g < 6 → (∀ g1, g1 < 6 → (bq (nI v) (nI g1) ↔ g1 = g)) → nI v = nI 1 <<< (nI g &&& 31) := by decide +kernel
theorem b6_n : ∀ v, v < 64 → ∀ j, j < 32 → 6 ≤ j → ¬ bq (nI v) (nI j) := by decide +kernel
def gdI (Λ E : Nat → Nat → Int32) (p g i : Nat) : Prop := ¬ (Λ 3 g = nI 1 ∧ ¬ E 6 (100 * p + i) = nI g) ∧ ¬ (Λ 3 g = nI 2 ∧ bq (Λ 8 g) (E 6 (100 * p + i)))
theorem gn_y {Λ Ψ D E : Nat → Nat → Int32} {p g k bv s t : Nat} (hy : bq (Λ 7 ((g * 6 + t) * 5 + s)) (D 3 p)) (hz : Ψ 1 g ≤ Λ 9 (p * 7 + 5)) (hg : g < 6) (hk : 0 < k) (hb : bv < 64) (ez9 : D 9 p = nI bv) (hA : ALs D E p k bv) (hall : ∀ i, i < k → gdI Λ E p g i) : gnF (Λ 9) (Λ 7) (Λ 3) (Λ 8) (Ψ 1) (D 3) (D 9) p g s t = nI 1 := by
  unfold gnF
  rw [if_pos hy, if_pos hz]
  by_cases h1 : Λ 3 g = nI 1
  · rw [if_pos h1, if_pos]
    rw [ez9]
    refine b1_e bv hb g hg (fun g1 hg1 => ?_)
    rw [hA.1 g1 hg1]
    have hx : ∀ i, i < k → D 10 (p * 97 + i) = nI g := fun i hi => by
      rw [← (hA.2 i hi).1]
      exact Classical.byContradiction (fun z => (hall i hi).1 ⟨h1, z⟩)
    constructor
    · rintro ⟨i, hi, he⟩
      rw [hx i hi] at he
      exact ((nI_eq (by omega) (by omega)).mp he).symm
    · intro e
      exact ⟨0, hk, by rw [e]; exact hx 0 hk⟩
  · rw [if_neg h1]
    by_cases h2 : Λ 3 g = nI 2
    · rw [if_pos h2, if_pos]
      rw [ez9]
      refine bq_ext (fun j hj => ⟨fun z => ?_, fun z => absurd z (bq_0 j hj)⟩)
      rw [bq_and hj] at z
      rcases Nat.lt_or_ge j 6 with y | y
      · obtain ⟨i, hi, he⟩ := (hA.1 j y).mp z.1
        refine absurd z.2 (fun x => (hall i hi).2 ⟨h2, ?_⟩)
        rw [(hA.2 i hi).1, he]
        exact x
      · exact absurd z.1 (b6_n bv hb j hj y)
    · rw [if_neg h2]
theorem gn_n {Λ Ψ D E : Nat → Nat → Int32} {p g k bv s t i : Nat} (hg : g < 6) (ez9 : D 9 p = nI bv) (hA : ALs D E p k bv) (hi : i < k) (hb : ¬ gdI Λ E p g i) : gnF (Λ 9) (Λ 7) (Λ 3) (Λ 8) (Ψ 1) (D 3) (D 9) p g s t = nI 0 := by
  unfold gnF
  split
  · split
    · obtain ⟨x, hx, ex⟩ := (hA.2 i hi).2
      have ez6 : E 6 (100 * p + i) = nI x := (hA.2 i hi).1.trans ex
      have hbit : bq (nI bv) (nI x) := (hA.1 x hx).mpr ⟨i, hi, ex⟩
      unfold gdI at hb
      rw [ez6] at hb
      by_cases h1 : Λ 3 g = nI 1
      · rw [if_pos h1, if_neg]
        intro z
        rw [ez9] at z
        rw [z, bq_1 g (by omega) x (by omega)] at hbit
        refine hb ⟨fun y => y.2 (by rw [hbit]), fun y => ?_⟩
        rw [h1] at y
        exact absurd y.1 (by decide)
      · rw [if_neg h1]
        by_cases h2 : Λ 3 g = nI 2
        · rw [if_pos h2, if_neg]
          intro z
          refine hb ⟨fun y => h1 y.1, fun y => ?_⟩
          have hbb : bq (D 9 p &&& Λ 8 g) (nI x) := by
            rw [bq_and (by omega), ez9]
            exact ⟨hbit, y.2⟩
          rw [z] at hbb
          exact bq_0 x (by omega) hbb
        · exact absurd ⟨fun y => h1 y.1, fun y => h2 y.1⟩ hb
    · rfl
  · rfl
theorem lnx {sc : Nat × (Nat → Int32)} {d : Nat} {m : Mm} {Q : Option Value → Mm → Prop} {q n np : Nat} {Λ Ψ : Nat → Nat → Int32} (hd : 2 ≤ d) (hW : Wd m.2.2) (hN : NW m.2.2 q) (hq : va_rf (mR m 142 3) = .ref q) (h158 : 158 ≤ q) (hnp8 : np ≤ 8) (hnp : mI m q 10 = nI np) (hpr : ∀ p, p < np → mI m (q + 10) p = Λ 9 (p * 7 + 0) ∧ mI m (q + 11) p = Λ 9 (p * 7 + 1) ∧ mI m (q + 12) p = Λ 9 (p * 7 + 2) ∧ mI m (q + 13) p = Λ 9 (p * 7 + 3) ∧ mI m (q + 14) p = Λ 9 (p * 7 + 4) ∧ mI m (q + 15) p = Λ 9 (p * 7 + 5) ∧ mI m (q + 16) p = Λ 9 (p * 7 + 6)) (hGN : ∀ p, p < np → iR (Λ 9 (p * 7 + 5)) 100 ∧ iR (Λ 9 (p * 7 + 6)) 100) {D : Nat → Nat → Int32} {g h g0 : Nat} {l w : Int32} (hJ : JE Λ Ψ n np) (hg : g < 6) (hh : h ≤ 95) {E : Nat → Nat → Int32} (hDE : DE Λ np l w g0 (h + 1) D E) (hQ : Q (some (.int (ec (foF D g h)))) (bput m 148 7 E))  : ∀ (j p : Nat), p ≤ np → np + 1 ≤ p + j → Jj sc d 0 0 (mth 273) (pg P273 4).1 [some (.ref 142), some (.int (nI g)), some (.int (nI h)), some (.int l), some (.int (ec (foQ D g h p))), some (.int (nI p))] [] (bput m 148 7 E) 0 0 Q := by
  intro j
  induction j with
  | zero => intro p h1 h2; omega
  | succ j ih =>
    intro p h1 h2
    refine J_w z273 (i := 4) (by decide) 104 ?_
    refine And.intro (Wdo_142 hW) (Exists.intro _ (And.intro hq ?_))
    refine And.intro (NWo_0 hN) ?_
    rw [bput_hi (m := m) (x := 148) (n := 7) (D := E) (b := q) (by omega)]
    rw [hnp]
    refine And.intro (fun cz8 => ?_) (fun cz8 => ?_)
    · -- 8 taken: nI np ≤ nI p
      have kz8 : np ≤ p := kle (a := np) (b := p) rfl rfl (by omega) (by omega) cz8
      refine And.intro ⟨rfl, trivial, Nat.le_refl _, Nat.le_refl _⟩ ?_
      have ez9 := foQ_np (D := D) (g := g) (h := h) (np := np) (fun x hx1 hx2 => Classical.byContradiction (fun z9 => absurd ((DP_st hJ hh hg (hDE.1 x hx2)).2 z9).1.1 (by omega))) (8 - np) (by omega)
      rw [show np + (8 - np) = 8 by omega] at ez9
      rw [show p = np by omega, ← ez9]
      exact hQ
    · -- 8 not: ¬ nI np ≤ nI p
      have kz8 : p < np := knle (a := np) (b := p) rfl rfl (by omega) (by omega) cz8
      have hsd := DP_st hJ hh hg (hDE.1 p (by omega))
      refine And.intro (Wdo_142 hW) (Exists.intro _ (And.intro (Wdr_142_23 hW) ?_))
      refine And.intro (Wdi_148 hW (vi rfl (by omega))) ?_
      rw [nI_clamp (show p < 2 ^ 31 by omega)]
      rw [bput_0 (x := 148) (by decide)]
      refine And.intro (fun cz14 => ?_) (fun cz14 => ?_)
      · -- 14 taken: ¬ E 0 p = nI g
        show Jj sc d 0 0 (mth 273) (pg P273 4).1 [some (.ref 142), some (.int (nI g)), some (.int (nI h)), some (.int l), some (.int (ec (foQ D g h p))), some (.int (nI p + nI 1))] [] (bput m 148 7 E) 0 0 Q
        rw [show nI p + nI 1 = nI (p + 1) from by simp only [nI_add, pk_mul]]
        have w9 := ih (p + 1) (by omega) (by omega)
        rw [foQ_s] at w9
        unfold foS at w9
        rw [if_pos (Classical.byContradiction (fun z9 => cz14 (hsd.1.mpr z9).1))] at w9
        exact w9
      · -- 14 not: E 0 p = nI g
        refine And.intro (Wdo_142 hW) (Exists.intro _ (And.intro (Wdr_142_25 hW) ?_))
        refine And.intro (Wdi_150 hW (vi rfl (by omega))) ?_
        rw [nI_clamp (show p < 2 ^ 31 by omega)]
        rw [bput_r (x := 148) (f := 2) (by decide)]
        refine And.intro (fun cz20 => ?_) (fun cz20 => ?_)
        · -- 20 taken: ¬ E 2 p = nI 2
          show Jj sc d 0 0 (mth 273) (pg P273 4).1 [some (.ref 142), some (.int (nI g)), some (.int (nI h)), some (.int l), some (.int (ec (foQ D g h p))), some (.int (nI p + nI 1))] [] (bput m 148 7 E) 0 0 Q
          rw [show nI p + nI 1 = nI (p + 1) from by simp only [nI_add, pk_mul]]
          have w9 := ih (p + 1) (by omega) (by omega)
          rw [foQ_s] at w9
          unfold foS at w9
          rw [if_pos (Classical.byContradiction (fun z9 => cz20 (hsd.1.mpr z9).2.1))] at w9
          exact w9
        · -- 20 not: E 2 p = nI 2
          refine And.intro (Wdo_142 hW) (Exists.intro _ (And.intro (Wdr_142_24 hW) ?_))
          refine And.intro (Wdi_149 hW (vi rfl (by omega))) ?_
          rw [nI_clamp (show p < 2 ^ 31 by omega)]
          rw [bput_r (x := 148) (f := 1) (by decide)]
          refine And.intro (fun cz26 => ?_) (fun cz26 => ?_)
          · -- 26 taken: nI h < E 1 p
            show Jj sc d 0 0 (mth 273) (pg P273 4).1 [some (.ref 142), some (.int (nI g)), some (.int (nI h)), some (.int l), some (.int (ec (foQ D g h p))), some (.int (nI p + nI 1))] [] (bput m 148 7 E) 0 0 Q
            rw [show nI p + nI 1 = nI (p + 1) from by simp only [nI_add, pk_mul]]
            have w9 := ih (p + 1) (by omega) (by omega)
            rw [foQ_s] at w9
            unfold foS at w9
            rw [if_pos (Classical.byContradiction (fun z9 => absurd cz26 (Int32.not_lt.mpr (hsd.1.mpr z9).2.2)))] at w9
            exact w9
          · -- 26 not: ¬ nI h < E 1 p
            refine And.intro (fun cz29 => ?_) (fun cz29 => ?_)
            · -- 29 taken: ec (foQ D g h p) = -nI 1
              show Jj sc d 0 0 (mth 273) (pg P273 4).1 [some (.ref 142), some (.int (nI g)), some (.int (nI h)), some (.int l), some (.int (nI p)), some (.int (nI p + nI 1))] [] (bput m 148 7 E) 0 0 Q
              rw [show nI p + nI 1 = nI (p + 1) from by simp only [nI_add, pk_mul]]
              have w9 := ih (p + 1) (by omega) (by omega)
              rw [foQ_s] at w9
              unfold foS at w9
              rw [if_neg (hsd.1.mp ⟨cz14, cz20, Int32.not_lt.mp cz26⟩), if_neg (ec_n.mp cz29), ec_lt (by omega)] at w9
              exact w9
            · -- 29 not: ¬ ec (foQ D g h p) = -nI 1
              refine And.intro ⟨by omega, Nat.le_of_ble_eq_true rfl, Nat.le_refl _, Nat.le_refl _⟩ (And.intro (Wdo_142 hW) ?_)
              have hb8 : foQ D g h p < 8 := Classical.byContradiction (fun y => cz29 (ec_n.mpr y))
              have hz9 : ¬ stF (D 1) (D 5) (D 6) p (nI g) (nI h) = 0 := hsd.1.mp ⟨cz14, cz20, Int32.not_lt.mp cz26⟩
              have hpf := hsd.2 hz9
              have hsb := (DP_st hJ hh hg (hDE.1 _ hb8)).2 (foQ_st (by omega) hb8)
              rw [ec_lt hb8]
              refine D274 (n := n) (Ψ := Ψ) (p := p) (b := foQ D g h p) (l := l) (by omega) hW hN hq h158 hnp8 hnp hpr hGN (by omega) hsb.1.1 ?_
              rw [show gaF (weF (Λ 9) l) (E 1) p (foQ D g h p) = gaF (D 4) (D 6) p (foQ D g h p) from by unfold gaF; rw [hpf.2.2.1, hsb.2.2.1, hpf.2.2.2.2.2.1, hsb.2.2.2.2.2.1]]
              show zw sc d 0 0 (mth 273).2.2.2.2.1 P273 (KJ sc d 0 0 (mth 273) P273 Q) Q 74 35 [some (.ref 142), some (.int (nI g)), some (.int (nI h)), some (.int l), some (.int (nI ((foQ D g h p)))), some (.int (nI p))] [.int (gaF (D 4) (D 6) p (foQ D g h p))] (bput m 148 7 E) 0 0
              refine And.intro (fun cz35 => ?_) (fun cz35 => ?_)
              · -- 35 taken: gaF (D 4) (D 6) p (foQ D g h p) = 0
                show Jj sc d 0 0 (mth 273) (pg P273 4).1 [some (.ref 142), some (.int (nI g)), some (.int (nI h)), some (.int l), some (.int (nI ((foQ D g h p)))), some (.int (nI p + nI 1))] [] (bput m 148 7 E) 0 0 Q
                rw [show nI p + nI 1 = nI (p + 1) from by simp only [nI_add, pk_mul]]
                have w9 := ih (p + 1) (by omega) (by omega)
                rw [foQ_s] at w9
                unfold foS at w9
                rw [if_neg hz9, if_pos hb8, if_pos cz35, ec_lt hb8] at w9
                exact w9
              · -- 35 not: ¬ gaF (D 4) (D 6) p (foQ D g h p) = 0
                show Jj sc d 0 0 (mth 273) (pg P273 4).1 [some (.ref 142), some (.int (nI g)), some (.int (nI h)), some (.int l), some (.int (nI p)), some (.int (nI p + nI 1))] [] (bput m 148 7 E) 0 0 Q
                rw [show nI p + nI 1 = nI (p + 1) from by simp only [nI_add, pk_mul]]
                have w9 := ih (p + 1) (by omega) (by omega)
                rw [foQ_s] at w9
                unfold foS at w9
                rw [if_neg hz9, if_pos hb8, if_neg cz35, ec_lt (by omega)] at w9
                exact w9
theorem D273 {d : Nat} {m : Mm} {Q : Option Value → Mm → Prop} {q n np : Nat} {Λ Ψ : Nat → Nat → Int32} (hd : 2 ≤ d) (hW : Wd m.2.2) (hN : NW m.2.2 q) (hq : va_rf (mR m 142 3) = .ref q) (h158 : 158 ≤ q) (hnp8 : np ≤ 8) (hnp : mI m q 10 = nI np) (hpr : ∀ p, p < np → mI m (q + 10) p = Λ 9 (p * 7 + 0) ∧ mI m (q + 11) p = Λ 9 (p * 7 + 1) ∧ mI m (q + 12) p = Λ 9 (p * 7 + 2) ∧ mI m (q + 13) p = Λ 9 (p * 7 + 3) ∧ mI m (q + 14) p = Λ 9 (p * 7 + 4) ∧ mI m (q + 15) p = Λ 9 (p * 7 + 5) ∧ mI m (q + 16) p = Λ 9 (p * 7 + 6)) (hGN : ∀ p, p < np → iR (Λ 9 (p * 7 + 5)) 100 ∧ iR (Λ 9 (p * 7 + 6)) 100) {D : Nat → Nat → Int32} {g h g0 : Nat} {l w : Int32} (hJ : JE Λ Ψ n np) (hg : g < 6) (hh : h ≤ 95) {E : Nat → Nat → Int32} (hDE : DE Λ np l w g0 (h + 1) D E) (hQ : Q (some (.int (ec (foF D g h)))) (bput m 148 7 E))  : Cc d 0 0 273 [.ref 142, .int (nI g), .int (nI h), .int l] (bput m 148 7 E) Q := by
  refine ent (n := 104) z273 (by decide) rfl (by decide) (Nat.le_of_ble_eq_true rfl) (fun sc => ?_)
  show Jj sc d 0 0 (mth 273) (pg P273 4).1 [some (.ref 142), some (.int (nI g)), some (.int (nI h)), some (.int l), some (.int (ec (foQ D g h 0))), some (.int (nI 0))] [] (bput m 148 7 E) 0 0 Q
  exact lnx (by omega) hW hN hq h158 hnp8 hnp hpr hGN hJ hg hh hDE hQ (np + 1) 0 (Nat.zero_le _) (by omega)
theorem lgr {sc : Nat × (Nat → Int32)} {d : Nat} {m : Mm} {Q : Option Value → Mm → Prop} {q n np : Nat} {Λ Ψ : Nat → Nat → Int32} (hd : 2 ≤ d) (hW : Wd m.2.2) (hN : NW m.2.2 q) (hq : va_rf (mR m 142 3) = .ref q) (h158 : 158 ≤ q) (hnp8 : np ≤ 8) (hnp : mI m q 10 = nI np) (hpr : ∀ p, p < np → mI m (q + 10) p = Λ 9 (p * 7 + 0) ∧ mI m (q + 11) p = Λ 9 (p * 7 + 1) ∧ mI m (q + 12) p = Λ 9 (p * 7 + 2) ∧ mI m (q + 13) p = Λ 9 (p * 7 + 3) ∧ mI m (q + 14) p = Λ 9 (p * 7 + 4) ∧ mI m (q + 15) p = Λ 9 (p * 7 + 5) ∧ mI m (q + 16) p = Λ 9 (p * 7 + 6)) (hGN : ∀ p, p < np → iR (Λ 9 (p * 7 + 5)) 100 ∧ iR (Λ 9 (p * 7 + 6)) 100) (hso : ∀ c, c < 24 → mI m (q + 1) c = Λ 2 c) (hgd : ∀ g, g < n → mI m (q + 2) g = Λ 3 g ∧ mI m (q + 4) g = Λ 4 g ∧ mI m (q + 5) g = Λ 5 g ∧ mI m (q + 6) g = Λ 6 g) (hof : ∀ x, x < 180 → mI m (q + 7) x = Λ 7 x) (hba : ∀ g, g < 6 → mI m (q + 9) g = Λ 8 g) (hv1 : ∀ g, g < 6 → mI m 145 (1 + g) = Ψ 1 g) (hv2 : ∀ x, x < 36 → mI m 145 (7 + x) = Ψ 2 x) (hn6 : n ≤ 6) {D E : Nat → Nat → Int32} {p g kk bv : Nat} (hp : p < np) (hg : g < n) (h3 : D 3 p = Λ 9 (p * 7 + 2)) (hk0 : 0 < kk) (hk97 : kk ≤ 97) (ek : E 5 p = nI kk) (hb64 : bv < 64) (eb : D 9 p = nI bv) (hAL : ALs D E p kk bv) {tt cc ss : Nat} (et : Λ 9 (p * 7 + 0) = nI tt) (ht6 : tt < 6) (ecc : Λ 9 (p * 7 + 1) = nI cc) (hcc : cc < 24) (ess : Λ 2 cc = nI ss) (hss : ss < 5) (hQ : Q (some (.int (gnF (Λ 9) (Λ 7) (Λ 3) (Λ 8) (Ψ 1) (D 3) (D 9) p g ss tt))) (bput m 148 7 E)) (hy9 : bq (Λ 7 ((g * 6 + tt) * 5 + ss)) (D 3 p)) (hz9 : Ψ 1 g ≤ Λ 9 (p * 7 + 5))  : ∀ (j i : Nat), i ≤ kk → kk + 1 ≤ i + j → (∀ i1, i1 < i → gdI Λ E p g i1) → Jj sc d 0 0 (mth 275) (pg P275 39).1 [some (.ref 142), some (.int (nI p)), some (.int (nI g)), some (.int (nI i)), none] [] (bput m 148 7 E) 0 0 Q := by
  intro j
  induction j with
  | zero => intro i h1 h2 hall; omega
  | succ j ih =>
    intro i h1 h2 hall
    refine J_w z275 (i := 39) (by decide) 190 ?_
    refine And.intro (Wdo_142 hW) (Exists.intro _ (And.intro (Wdr_142_28 hW) ?_))
    refine And.intro (Wdi_153 hW (vi rfl (by omega))) ?_
    rw [nI_clamp (show p < 2 ^ 31 by omega)]
    rw [bput_r (x := 148) (f := 5) (by decide)]
    rw [ek]
    refine And.intro (fun cz44 => ?_) (fun cz44 => ?_)
    · -- 44 taken: nI kk ≤ nI i
      have kz44 : kk ≤ i := kle (a := kk) (b := i) rfl rfl (by omega) (by omega) cz44
      refine And.intro ⟨rfl, Or.inr rfl, Nat.le_refl _, Nat.le_refl _⟩ ?_
      have w9 := gn_y (Ψ := Ψ) hy9 hz9 (by omega) hk0 hb64 eb hAL (fun i1 h9 => hall i1 (by omega))
      rw [w9] at hQ
      exact hQ
    · -- 44 not: ¬ nI kk ≤ nI i
      have kz44 : i < kk := knle (a := kk) (b := i) rfl rfl (by omega) (by omega) cz44
      refine And.intro (Wdo_142 hW) (Exists.intro _ (And.intro (Wdr_142_29 hW) ?_))
      have ez52 : (nI 100 * nI p) + nI i = nI (100 * p + i) := by simp only [nI_add, pk_mul]
      refine And.intro (Wdi_154 hW (vi ez52 (by omega))) ?_
      rw [vc ez52 (by omega)]
      rw [bput_r (x := 148) (f := 6) (by decide)]
      refine And.intro (Wdo_142 hW) (Exists.intro _ (And.intro hq ?_))
      refine And.intro (NWo_0 hN) (Exists.intro _ (And.intro (NWr_0_18 hN) ?_))
      refine And.intro (NWi_2 hN (vi rfl (by omega))) ?_
      rw [nI_clamp (show g < 2 ^ 31 by omega)]
      rw [bput_hi (m := m) (x := 148) (n := 7) (D := E) (b := (q + 2)) (by omega)]
      rw [((hgd g hg).1)]
      refine And.intro (fun cz60 => ?_) (fun cz60 => ?_)
      · -- 60 taken: ¬ Λ 3 g = nI 1
        refine And.intro (Wdo_142 hW) (Exists.intro _ (And.intro hq ?_))
        refine And.intro (NWo_0 hN) (Exists.intro _ (And.intro (NWr_0_18 hN) ?_))
        refine And.intro (NWi_2 hN (vi rfl (by omega))) ?_
        rw [nI_clamp (show g < 2 ^ 31 by omega)]
        rw [bput_hi (m := m) (x := 148) (n := 7) (D := E) (b := (q + 2)) (by omega)]
        rw [((hgd g hg).1)]
        refine And.intro (fun cz70 => ?_) (fun cz70 => ?_)
        · -- 70 taken: ¬ Λ 3 g = nI 2
          show Jj sc d 0 0 (mth 275) (pg P275 39).1 [some (.ref 142), some (.int (nI p)), some (.int (nI g)), some (.int (nI i + nI 1)), some (.int (E 6 (100 * p + i)))] [] (bput m 148 7 E) 0 0 Q
          rw [show nI i + nI 1 = nI (i + 1) from by simp only [nI_add, pk_mul]]
          refine J_wk (L' := [some (.ref 142), some (.int (nI p)), some (.int (nI g)), some (.int (nI (i + 1))), none]) ⟨rfl, rfl, rfl, rfl, trivial⟩ ?_
          refine ih (i + 1) (by omega) (by omega) (fun i1 h9 => ?_)
          rcases Nat.lt_or_ge i1 i with q9 | q9
          · exact hall i1 q9
          · rw [show i1 = i by omega]
            exact ⟨fun z9 => cz60 z9.1, fun z9 => cz70 z9.1⟩
        · -- 70 not: Λ 3 g = nI 2
          refine And.intro (Wdo_142 hW) (Exists.intro _ (And.intro hq ?_))
          refine And.intro (NWo_0 hN) (Exists.intro _ (And.intro (NWr_0_25 hN) ?_))
          refine And.intro (NWi_9 hN (vi rfl (by omega))) ?_
          rw [nI_clamp (show g < 2 ^ 31 by omega)]
          rw [bput_hi (m := m) (x := 148) (n := 7) (D := E) (b := (q + 9)) (by omega)]
          rw [(hba g (by omega))]
          refine And.intro ⟨by omega, Nat.le_of_ble_eq_true rfl, Nat.le_refl _, Nat.le_refl _⟩ ?_
          refine C205 (m := (bput m 148 7 E)) ?_
          show zw sc d 0 0 (mth 275).2.2.2.2.1 P275 (KJ sc d 0 0 (mth 275) P275 Q) Q 155 78 [some (.ref 142), some (.int (nI p)), some (.int (nI g)), some (.int (nI i)), some (.int (E 6 (100 * p + i)))] [.int (bi (bq (Λ 8 g) (E 6 (100 * p + i))))] (bput m 148 7 E) 0 0
          refine And.intro (fun cz78 => ?_) (fun cz78 => ?_)
          · -- 78 taken: bi (bq (Λ 8 g) (E 6 (100 * p + i))) = 0
            show Jj sc d 0 0 (mth 275) (pg P275 39).1 [some (.ref 142), some (.int (nI p)), some (.int (nI g)), some (.int (nI i + nI 1)), some (.int (E 6 (100 * p + i)))] [] (bput m 148 7 E) 0 0 Q
            rw [show nI i + nI 1 = nI (i + 1) from by simp only [nI_add, pk_mul]]
            refine J_wk (L' := [some (.ref 142), some (.int (nI p)), some (.int (nI g)), some (.int (nI (i + 1))), none]) ⟨rfl, rfl, rfl, rfl, trivial⟩ ?_
            refine ih (i + 1) (by omega) (by omega) (fun i1 h9 => ?_)
            rcases Nat.lt_or_ge i1 i with q9 | q9
            · exact hall i1 q9
            · rw [show i1 = i by omega]
              exact ⟨fun z9 => cz60 z9.1, fun z9 => bi_eq0.mp cz78 z9.2⟩
          · -- 78 not: ¬ bi (bq (Λ 8 g) (E 6 (100 * p + i))) = 0
            refine And.intro ⟨rfl, Or.inl rfl, Nat.le_refl _, Nat.le_refl _⟩ ?_
            have w9 := gn_n (Λ := Λ) (Ψ := Ψ) (s := ss) (t := tt) (g := g) (by omega) eb hAL kz44 (fun z9 => z9.2 ⟨cz70, bi_ne0.mp cz78⟩)
            rw [w9] at hQ
            exact hQ
      · -- 60 not: Λ 3 g = nI 1
        refine And.intro (fun cz63 => ?_) (fun cz63 => ?_)
        · -- 63 taken: ¬ E 6 (100 * p + i) = nI g
          refine And.intro ⟨rfl, Or.inl rfl, Nat.le_refl _, Nat.le_refl _⟩ ?_
          have w9 := gn_n (Λ := Λ) (Ψ := Ψ) (s := ss) (t := tt) (g := g) (by omega) eb hAL kz44 (fun z9 => z9.1 ⟨cz60, cz63⟩)
          rw [w9] at hQ
          exact hQ
        · -- 63 not: E 6 (100 * p + i) = nI g
          refine And.intro (Wdo_142 hW) (Exists.intro _ (And.intro hq ?_))
          refine And.intro (NWo_0 hN) (Exists.intro _ (And.intro (NWr_0_18 hN) ?_))
          refine And.intro (NWi_2 hN (vi rfl (by omega))) ?_
          rw [nI_clamp (show g < 2 ^ 31 by omega)]
          rw [bput_hi (m := m) (x := 148) (n := 7) (D := E) (b := (q + 2)) (by omega)]
          rw [((hgd g hg).1)]
          refine And.intro (fun cz70 => ?_) (fun cz70 => ?_)
          · -- 70 taken: ¬ Λ 3 g = nI 2
            show Jj sc d 0 0 (mth 275) (pg P275 39).1 [some (.ref 142), some (.int (nI p)), some (.int (nI g)), some (.int (nI i + nI 1)), some (.int (E 6 (100 * p + i)))] [] (bput m 148 7 E) 0 0 Q
            rw [show nI i + nI 1 = nI (i + 1) from by simp only [nI_add, pk_mul]]
            refine J_wk (L' := [some (.ref 142), some (.int (nI p)), some (.int (nI g)), some (.int (nI (i + 1))), none]) ⟨rfl, rfl, rfl, rfl, trivial⟩ ?_
            refine ih (i + 1) (by omega) (by omega) (fun i1 h9 => ?_)
            rcases Nat.lt_or_ge i1 i with q9 | q9
            · exact hall i1 q9
            · rw [show i1 = i by omega]
              exact ⟨fun z9 => z9.2 cz63, fun z9 => cz70 z9.1⟩
          · -- 70 not: Λ 3 g = nI 2
            refine And.intro (Wdo_142 hW) (Exists.intro _ (And.intro hq ?_))
            refine And.intro (NWo_0 hN) (Exists.intro _ (And.intro (NWr_0_25 hN) ?_))
            refine And.intro (NWi_9 hN (vi rfl (by omega))) ?_
            rw [nI_clamp (show g < 2 ^ 31 by omega)]
            rw [bput_hi (m := m) (x := 148) (n := 7) (D := E) (b := (q + 9)) (by omega)]
            rw [(hba g (by omega))]
            refine And.intro ⟨by omega, Nat.le_of_ble_eq_true rfl, Nat.le_refl _, Nat.le_refl _⟩ ?_
            refine C205 (m := (bput m 148 7 E)) ?_
            show zw sc d 0 0 (mth 275).2.2.2.2.1 P275 (KJ sc d 0 0 (mth 275) P275 Q) Q 152 78 [some (.ref 142), some (.int (nI p)), some (.int (nI g)), some (.int (nI i)), some (.int (E 6 (100 * p + i)))] [.int (bi (bq (Λ 8 g) (E 6 (100 * p + i))))] (bput m 148 7 E) 0 0
            refine And.intro (fun cz78 => ?_) (fun cz78 => ?_)
            · -- 78 taken: bi (bq (Λ 8 g) (E 6 (100 * p + i))) = 0
              show Jj sc d 0 0 (mth 275) (pg P275 39).1 [some (.ref 142), some (.int (nI p)), some (.int (nI g)), some (.int (nI i + nI 1)), some (.int (E 6 (100 * p + i)))] [] (bput m 148 7 E) 0 0 Q
              rw [show nI i + nI 1 = nI (i + 1) from by simp only [nI_add, pk_mul]]
              refine J_wk (L' := [some (.ref 142), some (.int (nI p)), some (.int (nI g)), some (.int (nI (i + 1))), none]) ⟨rfl, rfl, rfl, rfl, trivial⟩ ?_
              refine ih (i + 1) (by omega) (by omega) (fun i1 h9 => ?_)
              rcases Nat.lt_or_ge i1 i with q9 | q9
              · exact hall i1 q9
              · rw [show i1 = i by omega]
                exact ⟨fun z9 => z9.2 cz63, fun z9 => bi_eq0.mp cz78 z9.2⟩
            · -- 78 not: ¬ bi (bq (Λ 8 g) (E 6 (100 * p + i))) = 0
              refine And.intro ⟨rfl, Or.inl rfl, Nat.le_refl _, Nat.le_refl _⟩ ?_
              have w9 := gn_n (Λ := Λ) (Ψ := Ψ) (s := ss) (t := tt) (g := g) (by omega) eb hAL kz44 (fun z9 => z9.2 ⟨cz70, bi_ne0.mp cz78⟩)
              rw [w9] at hQ
              exact hQ
theorem D275 {d : Nat} {m : Mm} {Q : Option Value → Mm → Prop} {q n np : Nat} {Λ Ψ : Nat → Nat → Int32} (hd : 2 ≤ d) (hW : Wd m.2.2) (hN : NW m.2.2 q) (hq : va_rf (mR m 142 3) = .ref q) (h158 : 158 ≤ q) (hnp8 : np ≤ 8) (hnp : mI m q 10 = nI np) (hpr : ∀ p, p < np → mI m (q + 10) p = Λ 9 (p * 7 + 0) ∧ mI m (q + 11) p = Λ 9 (p * 7 + 1) ∧ mI m (q + 12) p = Λ 9 (p * 7 + 2) ∧ mI m (q + 13) p = Λ 9 (p * 7 + 3) ∧ mI m (q + 14) p = Λ 9 (p * 7 + 4) ∧ mI m (q + 15) p = Λ 9 (p * 7 + 5) ∧ mI m (q + 16) p = Λ 9 (p * 7 + 6)) (hGN : ∀ p, p < np → iR (Λ 9 (p * 7 + 5)) 100 ∧ iR (Λ 9 (p * 7 + 6)) 100) (hso : ∀ c, c < 24 → mI m (q + 1) c = Λ 2 c) (hgd : ∀ g, g < n → mI m (q + 2) g = Λ 3 g ∧ mI m (q + 4) g = Λ 4 g ∧ mI m (q + 5) g = Λ 5 g ∧ mI m (q + 6) g = Λ 6 g) (hof : ∀ x, x < 180 → mI m (q + 7) x = Λ 7 x) (hba : ∀ g, g < 6 → mI m (q + 9) g = Λ 8 g) (hv1 : ∀ g, g < 6 → mI m 145 (1 + g) = Ψ 1 g) (hv2 : ∀ x, x < 36 → mI m 145 (7 + x) = Ψ 2 x) (hn6 : n ≤ 6) {D E : Nat → Nat → Int32} {p g kk bv : Nat} (hp : p < np) (hg : g < n) (h3 : D 3 p = Λ 9 (p * 7 + 2)) (hk0 : 0 < kk) (hk97 : kk ≤ 97) (ek : E 5 p = nI kk) (hb64 : bv < 64) (eb : D 9 p = nI bv) (hAL : ALs D E p kk bv) {tt cc ss : Nat} (et : Λ 9 (p * 7 + 0) = nI tt) (ht6 : tt < 6) (ecc : Λ 9 (p * 7 + 1) = nI cc) (hcc : cc < 24) (ess : Λ 2 cc = nI ss) (hss : ss < 5) (hQ : Q (some (.int (gnF (Λ 9) (Λ 7) (Λ 3) (Λ 8) (Ψ 1) (D 3) (D 9) p g ss tt))) (bput m 148 7 E))  : Cc d 0 0 275 [.ref 142, .int (nI p), .int (nI g)] (bput m 148 7 E) Q := by
  refine ent (n := 190) z275 (by decide) rfl (by decide) (Nat.le_of_ble_eq_true rfl) (fun sc => ?_)
  refine And.intro (Wdo_142 hW) (Exists.intro _ (And.intro hq ?_))
  refine And.intro (NWo_0 hN) (Exists.intro _ (And.intro (NWr_0_26 hN) ?_))
  refine And.intro (NWi_10 hN (vi rfl (by omega))) ?_
  rw [nI_clamp (show p < 2 ^ 31 by omega)]
  rw [bput_hi (m := m) (x := 148) (n := 7) (D := E) (b := (q + 10)) (by omega)]
  rw [((hpr p hp).1.trans et)]
  refine And.intro (Wdo_142 hW) (Exists.intro _ (And.intro hq ?_))
  refine And.intro (NWo_0 hN) (Exists.intro _ (And.intro (NWr_0_17 hN) ?_))
  refine And.intro (Wdo_142 hW) (Exists.intro _ (And.intro hq ?_))
  refine And.intro (NWo_0 hN) (Exists.intro _ (And.intro (NWr_0_27 hN) ?_))
  refine And.intro (NWi_11 hN (vi rfl (by omega))) ?_
  rw [nI_clamp (show p < 2 ^ 31 by omega)]
  rw [bput_hi (m := m) (x := 148) (n := 7) (D := E) (b := (q + 11)) (by omega)]
  rw [((hpr p hp).2.1.trans ecc)]
  refine And.intro (NWi_1 hN (vi rfl (by omega))) ?_
  rw [nI_clamp (show cc < 2 ^ 31 by omega)]
  rw [bput_hi (m := m) (x := 148) (n := 7) (D := E) (b := (q + 1)) (by omega)]
  rw [((hso cc hcc).trans ess)]
  refine And.intro (Wdo_142 hW) (Exists.intro _ (And.intro hq ?_))
  refine And.intro (NWo_0 hN) (Exists.intro _ (And.intro (NWr_0_28 hN) ?_))
  refine And.intro (NWi_12 hN (vi rfl (by omega))) ?_
  rw [nI_clamp (show p < 2 ^ 31 by omega)]
  rw [bput_hi (m := m) (x := 148) (n := 7) (D := E) (b := (q + 12)) (by omega)]
  rw [((hpr p hp).2.2.1.trans h3.symm)]
  refine And.intro ⟨by omega, Nat.le_of_ble_eq_true rfl, Nat.le_refl _, Nat.le_refl _⟩ (And.intro (Wdo_142 hW) ?_)
  refine C256 (m := (bput m 148 7 E)) (g := g) (t := tt) (s := ss) hW hN hq (by omega) (by omega) (by omega) (by omega) ?_
  rw [bput_hi (m := m) (x := 148) (n := 7) (D := E) (b := (q + 7)) (by omega)]
  rw [hof _ (by omega)]
  refine And.intro (fun cz22 => ?_) (fun cz22 => ?_)
  · -- 22 taken: bi (bq (Λ 7 ((g * 6 + tt) * 5 + ss)) (D 3 p)) = 0
    refine And.intro ⟨rfl, Or.inl rfl, Nat.le_refl _, Nat.le_refl _⟩ ?_
    unfold gnF at hQ
    rw [if_neg (bi_eq0.mp cz22)] at hQ
    exact hQ
  · -- 22 not: ¬ bi (bq (Λ 7 ((g * 6 + tt) * 5 + ss)) (D 3 p)) = 0
    refine And.intro (Wdo_142 hW) (Exists.intro _ (And.intro hq ?_))
    refine And.intro (NWo_0 hN) (Exists.intro _ (And.intro (NWr_0_31 hN) ?_))
    refine And.intro (NWi_15 hN (vi rfl (by omega))) ?_
    rw [nI_clamp (show p < 2 ^ 31 by omega)]
    rw [bput_hi (m := m) (x := 148) (n := 7) (D := E) (b := (q + 15)) (by omega)]
    rw [((hpr p hp).2.2.2.2.2.1)]
    refine And.intro (Wdo_142 hW) (Exists.intro _ (And.intro (Wdr_142_18 hW) ?_))
    have ez33 : nI 1 + nI g = nI (1 + g) := by simp only [nI_add, pk_mul]
    refine And.intro (Wdi_145 hW (vi ez33 (by omega))) ?_
    rw [vc ez33 (by omega)]
    rw [bput_lo (m := m) (x := 148) (n := 7) (D := E) (b := 145) (by omega)]
    rw [(hv1 g (by omega))]
    refine And.intro (fun cz34 => ?_) (fun cz34 => ?_)
    · -- 34 taken: Ψ 1 g ≤ Λ 9 (p * 7 + 5)
      show Jj sc d 0 0 (mth 275) (pg P275 39).1 [some (.ref 142), some (.int (nI p)), some (.int (nI g)), some (.int (nI 0)), none] [] (bput m 148 7 E) 0 0 Q
      exact lgr (by omega) hW hN hq h158 hnp8 hnp hpr hGN hso hgd hof hba hv1 hv2 hn6 hp hg h3 hk0 hk97 ek hb64 eb hAL et ht6 ecc hcc ess hss hQ (bi_ne0.mp cz22) cz34 (kk + 1) 0 (Nat.zero_le _) (by omega) (fun _ h => absurd h (by omega))
    · -- 34 not: ¬ Ψ 1 g ≤ Λ 9 (p * 7 + 5)
      refine And.intro ⟨rfl, Or.inl rfl, Nat.le_refl _, Nat.le_refl _⟩ ?_
      unfold gnF at hQ
      rw [if_pos (bi_ne0.mp cz22), if_neg cz34] at hQ
      exact hQ
