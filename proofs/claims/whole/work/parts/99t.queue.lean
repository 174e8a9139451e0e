def ctN (D : Nat → Nat → Int32) (g h : Nat) (n : Nat) : Nat := fo (fun p y => if stF (D 1) (D 5) (D 6) p (nI g) (nI h) = 0 then y else y + 1) 0 n
theorem ctN_s {D : Nat → Nat → Int32} {g h n : Nat} : ctN D g h (n + 1) = (if stF (D 1) (D 5) (D 6) n (nI g) (nI h) = 0 then ctN D g h n else ctN D g h n + 1) := fo_s
theorem ctN_l {D : Nat → Nat → Int32} {g h : Nat} : ∀ n, ctN D g h n ≤ n
  | 0 => Nat.le_refl _
  | n + 1 => by
    have := ctN_l (D := D) (g := g) (h := h) n
    rw [ctN_s]
    split <;> omega
theorem st_no {D : Nat → Nat → Int32} {g h : Int32} {p : Nat} (hn : ¬ D 1 p = nI 2) : stF (D 1) (D 5) (D 6) p g h = 0 := by
  unfold stF
  rw [if_neg hn]
  rfl
theorem ct_np {D : Nat → Nat → Int32} {np g h : Nat} (hI : DI np D) : ∀ i, np + i ≤ 8 → ctN D g h (np + i) = ctN D g h np
  | 0, _ => rfl
  | i + 1, hi => by
    rw [show np + (i + 1) = (np + i) + 1 from rfl, ctN_s, if_pos (st_no (fun z => absurd (hI (np + i) (by omega) z).1 (by omega)))]
    exact ct_np hI i (by omega)
theorem ct_8 {D : Nat → Nat → Int32} {np g h : Nat} (hI : DI np D) (h8 : np ≤ 8) : ctN D g h 8 = ctN D g h np := by
  obtain ⟨i, hi⟩ := Nat.exists_eq_add_of_le h8
  have := ct_np (g := g) (h := h) hI i (by omega)
  rw [← hi] at this
  exact this
theorem qz_0 {D : Nat → Nat → Int32} {h g : Nat} : ∀ n, g < n → qzQ D h n 11 (g * 96 + h) = nI 0
  | 0, hg => absurd hg (Nat.not_lt_zero _)
  | n + 1, hg => by
    rw [qzQ_s, ud_eq]
    by_cases e : g = n
    · rw [e, upd_e]
    · rw [upd_o (by omega)]; exact qz_0 n (by omega)
theorem qn_8 : ∀ y, y < 9 → qnF (nI y) = nI (y + 1) := by decide +kernel
theorem qc_v {X : Nat → Nat → Int32} {np g h : Nat} (hI : DI np X) (hD2 : X 0 11 = nI (opn X 8)) (hg : g < 6) : ∀ p, p ≤ 8 → qcQ (qzQ X h 6) h p 11 (g * 96 + h) = nI (ctN X g h p)
  | 0, _ => qz_0 6 hg
  | p + 1, hp => by
    have ih := qc_v (h := h) hI hD2 hg p (by omega)
    have r : ∀ f, f ≠ 11 → qcQ (qzQ X h 6) h p f = X f := fun f hf => by rw [qcQ_r hf, qzQ_r hf]
    rw [qcQ_s, ctN_s]
    unfold qcS
    rw [r 0 (by decide), r 1 (by decide), r 5 (by decide), r 6 (by decide)]
    by_cases z : X 0 11 ≤ 0
    · rw [if_pos z, if_pos (st_no (DE_no (Λ := X) (Ψ := X) (np := np) hD2 z p (by omega)))]
      exact ih
    · rw [if_neg z]
      by_cases y : stF (X 1) (X 5) (X 6) p (X 5 p) (nI h) = 0
      · rw [if_pos y]
        have ez0 : stF (X 1) (X 5) (X 6) p (nI g) (nI h) = 0 := by
          by_cases ez5 : X 5 p = nI g
          · rw [← ez5]; exact y
          · unfold stF
            rw [if_neg ez5]
            split <;> rfl
        rw [if_pos ez0]
        exact ih
      · rw [if_neg y]
        have h1 : X 1 p = nI 2 := Classical.byContradiction fun z1 => y (st_no z1)
        obtain ⟨-, ⟨g1, hg1, eg1⟩, -⟩ := hI p (by omega) h1
        rw [eg1, nv_nI (by omega), ud_eq]
        by_cases e : g1 = g
        · rw [← e, upd_e, if_neg (by rw [← eg1]; exact y), e, ih]
          exact qn_8 _ (by have := ctN_l (D := X) (g := g) (h := h) p; omega)
        · have ez0 : stF (X 1) (X 5) (X 6) p (nI g) (nI h) = 0 := by
            unfold stF
            rw [if_neg (fun z2 => e ((nI_eq (by omega) (by omega)).mp (eg1.symm.trans z2)))]
            split <;> rfl
          rw [upd_o (by omega), if_pos ez0]
          exact ih
theorem qc_o {X : Nat → Nat → Int32} {g h i : Nat} (hi : i < 96) (hh : h < 96) (hn : h ≠ i) : ∀ p, qcQ X h p 11 (g * 96 + i) = X 11 (g * 96 + i)
  | 0 => rfl
  | p + 1 => by
    rw [qcQ_s]
    unfold qcS
    split
    · exact qc_o hi hh hn p
    · split
      · exact qc_o hi hh hn p
      · rw [ud_eq, upd_o (by omega)]; exact qc_o hi hh hn p
theorem qz_o {X : Nat → Nat → Int32} {g h i : Nat} (hi : i < 96) (hh : h < 96) (hn : h ≠ i) : ∀ p, qzQ X h p 11 (g * 96 + i) = X 11 (g * 96 + i)
  | 0 => rfl
  | p + 1 => by
    rw [qzQ_s, ud_eq, upd_o (by omega)]; exact qz_o hi hh hn p
theorem se_11 {Λ Ψ D : Nat → Nat → Int32} {g h : Nat} : ∀ i, seQ Λ Ψ D g h i 11 = D 11
  | 0 => rfl
  | i + 1 => by
    have ih := se_11 (Λ := Λ) (Ψ := Ψ) (D := D) (g := g) (h := h) i
    rw [seQ_s]
    unfold seS
    generalize seQ Λ Ψ D g h i = Y at *
    split
    · unfold juF
      split
      · split
        · exact ih
        · exact ih
      · exact ih
    · exact ih
theorem gd_11 {Λ Ψ D : Nat → Nat → Int32} {h : Nat} : ∀ g, gdQ Λ Ψ D h g 11 = D 11
  | 0 => by rw [gdQ_0]
  | g + 1 => by
    have ih := gd_11 (Λ := Λ) (Ψ := Ψ) (D := D) (h := h) g
    rw [gdQ_s]
    unfold gdS
    split
    · exact ih
    · split
      · exact ih
      · rw [se_11]; exact ih
theorem hr_11 {Λ Ψ D : Nat → Nat → Int32} {n g i : Nat} (hi : i < 96) : ∀ j, i + 1 + j ≤ 96 → hrQ Λ Ψ n D (i + 1 + j) 11 (g * 96 + i) = hrQ Λ Ψ n D (i + 1) 11 (g * 96 + i)
  | 0, _ => rfl
  | j + 1, hj => by
    have ih := hr_11 (Λ := Λ) (Ψ := Ψ) (D := D) (n := n) (g := g) hi j (by omega)
    rw [show i + 1 + (j + 1) = (i + 1 + j) + 1 from rfl, hrQ_s, hrS_e]
    unfold cqF
    rw [qc_o hi (by omega) (by omega), qz_o hi (by omega) (by omega), gd_11]
    exact ih
theorem qu_v {Λ Ψ D E0 : Nat → Nat → Int32} {n np g0 g h : Nat} {l w : Int32} (hnp8 : np ≤ 8) (hg : g < 6) (hh : h ≤ 95) (hx : DE Λ np l w g0 (h + 1) (hrQ Λ Ψ n (beQ Λ np l w g0 D 8) (h + 1)) E0) : runF Λ Ψ n np l w g0 D 11 (g * 96 + h) = nI (ctN (hrQ Λ Ψ n (beQ Λ np l w g0 D 8) (h + 1)) g h np) := by
  have e : runF Λ Ψ n np l w g0 D = wfQ (hrQ Λ Ψ n (beQ Λ np l w g0 D 8) 96) 8 := rfl
  rw [e, wfQ_r (by decide)]
  generalize beQ Λ np l w g0 D 8 = B at *
  have h9 := hr_11 (Λ := Λ) (Ψ := Ψ) (D := B) (n := n) (g := g) (i := h) (by omega) (95 - h) (by omega)
  rw [show h + 1 + (95 - h) = 96 by omega] at h9
  rw [h9, ← ct_8 hx.2.2 hnp8]
  have h2 := hx.2.1
  have h3 := hx.2.2
  rw [hrQ_s, hrS_e] at h2 h3 ⊢
  generalize gdQ Λ Ψ (hrQ Λ Ψ n B h) h n = X at *
  have r : ∀ f, f ≠ 11 → cqF X h f = X f := fun f hf => cqF_r hf
  have o8 : opn (cqF X h) 8 = opn X 8 := opn_c 8 (fun p _ => by rw [r 1 (by decide)])
  rw [r 0 (by decide), o8] at h2
  have hI : DI np X := DI_r h3 (r 1 (by decide)).symm (r 5 (by decide)).symm (r 6 (by decide)).symm (r 8 (by decide)).symm
  have ec : ctN (cqF X h) g h 8 = ctN X g h 8 := by
    unfold ctN
    rw [r 1 (by decide), r 5 (by decide), r 6 (by decide)]
  rw [ec]
  exact qc_v hI h2 hg 8 (Nat.le_refl _)
theorem le95 {x : Int32} : x ≤ nI 95 ↔ x < nI 96 := by
  rw [Int32.le_iff_toInt_le, Int32.lt_iff_toInt_lt, nI_toInt (by decide), nI_toInt (by decide)]
  omega
theorem lqu {sc : Nat × (Nat → Int32)} {d : Nat} {m : Mm} {Q : Option Value → Mm → Prop} {q np g h : Nat} {D : Nat → Nat → Int32} (hd : 2 ≤ d) (hW : Wd m.2.2) (hN : NW m.2.2 q) (hq : va_rf (mR m 142 3) = .ref q) (h158 : 158 ≤ q) (hnp8 : np ≤ 8) (hg : g < 6) (hh : h ≤ 95) (hnp : mI m q 10 = nI np) (hst : ∀ p, p < np → ((mI m 148 p = nI g ∧ mI m 150 p = nI 2 ∧ mI m 149 p ≤ nI h) ↔ ¬ stF (D 1) (D 5) (D 6) p (nI g) (nI h) = 0)) (hQ : Q (some (.int (nI (ctN D g h np)))) (uI (uI m 142 1 (nI 0)) 142 2 (-nI 1)))  : ∀ (j p : Nat), p ≤ np → np + 1 ≤ p + j → Jj sc d 0 0 (mth 287) (pg P287 32).1 [some (.ref 142), some (.int (nI g)), some (.int (nI h)), some (.int (nI (ctN D g h p))), some (.int (nI p))] [] m 0 0 Q := by
  intro j
  induction j with
  | zero => intro p h1 h2; omega
  | succ j ih =>
    intro p h1 h2
    refine J_w z287 (i := 32) (by decide) 154 ?_
    refine And.intro (Wdo_142 hW) (Exists.intro _ (And.intro hq ?_))
    refine And.intro (NWo_0 hN) ?_
    rw [hnp]
    refine And.intro (fun cz36 => ?_) (fun cz36 => ?_)
    · -- 36 taken: nI np ≤ nI p
      have kz36 : np ≤ p := kle (a := np) (b := p) rfl rfl (by omega) (by omega) cz36
      refine And.intro ⟨by omega, Nat.le_of_ble_eq_true rfl, Nat.le_refl _, Nat.le_refl _⟩ (And.intro (Wdo_142 hW) ?_)
      refine C202 hW ?_
      refine And.intro ⟨rfl, trivial, Nat.le_refl _, Nat.le_refl _⟩ ?_
      rw [show p = np by omega]
      exact hQ
    · -- 36 not: ¬ nI np ≤ nI p
      have kz36 : p < np := knle (a := np) (b := p) rfl rfl (by omega) (by omega) cz36
      refine And.intro (Wdo_142 hW) (Exists.intro _ (And.intro (Wdr_142_23 hW) ?_))
      refine And.intro (Wdi_148 hW (vi rfl (by omega))) ?_
      rw [nI_clamp (show p < 2 ^ 31 by omega)]
      refine And.intro (fun cz43 => ?_) (fun cz43 => ?_)
      · -- 43 taken: ¬ mI m 148 p = nI g
        show Jj sc d 0 0 (mth 287) (pg P287 32).1 [some (.ref 142), some (.int (nI g)), some (.int (nI h)), some (.int ((nI (ctN D g h p)) + nI 0)), some (.int (nI p + nI 1))] [] m 0 0 Q
        rw [show nI p + nI 1 = nI (p + 1) from by simp only [nI_add, pk_mul]]
        have w9 := ih (p + 1) (by omega) (by omega)
        rw [ctN_s, if_pos (Classical.byContradiction fun z => cz43 ((hst p kz36).mpr z).1)] at w9
        rw [add_z]
        exact w9
      · -- 43 not: mI m 148 p = nI g
        refine And.intro (Wdo_142 hW) (Exists.intro _ (And.intro (Wdr_142_25 hW) ?_))
        refine And.intro (Wdi_150 hW (vi rfl (by omega))) ?_
        rw [nI_clamp (show p < 2 ^ 31 by omega)]
        refine And.intro (fun cz49 => ?_) (fun cz49 => ?_)
        · -- 49 taken: ¬ mI m 150 p = nI 2
          show Jj sc d 0 0 (mth 287) (pg P287 32).1 [some (.ref 142), some (.int (nI g)), some (.int (nI h)), some (.int ((nI (ctN D g h p)) + nI 0)), some (.int (nI p + nI 1))] [] m 0 0 Q
          rw [show nI p + nI 1 = nI (p + 1) from by simp only [nI_add, pk_mul]]
          have w9 := ih (p + 1) (by omega) (by omega)
          rw [ctN_s, if_pos (Classical.byContradiction fun z => cz49 ((hst p kz36).mpr z).2.1)] at w9
          rw [add_z]
          exact w9
        · -- 49 not: mI m 150 p = nI 2
          refine And.intro (Wdo_142 hW) (Exists.intro _ (And.intro (Wdr_142_24 hW) ?_))
          refine And.intro (Wdi_149 hW (vi rfl (by omega))) ?_
          rw [nI_clamp (show p < 2 ^ 31 by omega)]
          refine And.intro (fun cz55 => ?_) (fun cz55 => ?_)
          · -- 55 taken: nI h < mI m 149 p
            show Jj sc d 0 0 (mth 287) (pg P287 32).1 [some (.ref 142), some (.int (nI g)), some (.int (nI h)), some (.int ((nI (ctN D g h p)) + nI 0)), some (.int (nI p + nI 1))] [] m 0 0 Q
            rw [show nI p + nI 1 = nI (p + 1) from by simp only [nI_add, pk_mul]]
            have w9 := ih (p + 1) (by omega) (by omega)
            rw [ctN_s, if_pos (Classical.byContradiction fun z => absurd ((hst p kz36).mpr z).2.2 (Int32.not_le.mpr cz55))] at w9
            rw [add_z]
            exact w9
          · -- 55 not: ¬ nI h < mI m 149 p
            show Jj sc d 0 0 (mth 287) (pg P287 32).1 [some (.ref 142), some (.int (nI g)), some (.int (nI h)), some (.int ((nI (ctN D g h p)) + nI 1)), some (.int (nI p + nI 1))] [] m 0 0 Q
            rw [show nI p + nI 1 = nI (p + 1) from by simp only [nI_add, pk_mul]]
            have w9 := ih (p + 1) (by omega) (by omega)
            rw [ctN_s, if_neg ((hst p kz36).mp ⟨cz43, cz49, Int32.not_lt.mp cz55⟩)] at w9
            rw [nI_add]
            exact w9
theorem P_queue {d : Nat} {m : Mm} {Q : Option Value → Mm → Prop} {z : Nat} {x y : Int32} (hd : 16 ≤ d) (hR : Rel z m) (h : ∀ (r : Int32) m1, Wd m1.2.2 → (∀ Q2 : Option Value → Mm → Prop, (∀ m2, Rel z m2 → Q2 (some (.int r)) m2) → Cc d 0 0 287 [.ref 142, .int x, .int y] m1 Q2) → Q (some (.int r)) m1) : Cc d 0 0 142 [.ref 0, .int x, .int y] m Q := by
  obtain ⟨hW, hz, hS, a, b, hA, hX⟩ := id hR
  obtain ⟨hL, hLb, hab, ha, hb⟩ := RelA_L hW hA
  obtain ⟨n2r, hn2, bn2, ln2⟩ := RL_n (s := 2) (f := 5) hX.2.2.1 (by decide) (fun _ _ h => h.2.2.2.2.2.1)
  change n2r ≤ 6 at bn2
  obtain ⟨n4r, hn4, bn4, ln4⟩ := RL_n (s := 4) (f := 6) hX.2.2.1 (by decide) (fun _ _ h => h.2.2.2.2.2.2.1)
  change n4r ≤ 6 at bn4
  obtain ⟨n8r, hn8, bn8, ln8⟩ := RL_n (s := 8) (f := 10) hX.2.2.1 (by decide) (fun _ _ h => h.2.2.2.2.2.2.2.2.2.2.1)
  change n8r ≤ 8 at bn8
  obtain ⟨n10r, hn10, bn10, ln10⟩ := RL_n (s := 10) (f := 12) hX.2.2.1 (by decide) (fun _ _ h => h.2.2.2.2.2.2.2.2.2.2.2.2.1)
  change n10r ≤ 4 at bn10
  refine ent (n := 70) z142 (by decide) rfl (by decide) (Nat.le_of_ble_eq_true rfl) (fun sc => ?_)
  refine And.intro ⟨by omega, Nat.le_of_ble_eq_true rfl, Nat.le_refl _, Nat.le_refl _⟩ (And.intro (Wdo_0 hW) ?_)
  refine C181 (by omega) hW ha hL hn4 (by omega) ?_
  refine And.intro (fun cz3 => ?_) (fun cz3 => ?_)
  · -- 3 taken: ¬ bi (iR x n4r) = 0
    refine And.intro (fun cz9 => ?_) (fun cz9 => ?_)
    · -- 9 taken: y < 0
      refine And.intro ⟨by omega, Nat.le_of_ble_eq_true rfl, Nat.le_refl _, Nat.le_refl _⟩ (And.intro (Wdo_0 hW) ?_)
      refine C176 hW ?_
      refine And.intro ⟨rfl, trivial, Nat.le_refl _, Nat.le_refl _⟩ ?_
      refine h _ _ hW (fun Q2 h2 => ?_)
      refine ent (n := 154) z287 (by decide) rfl (by decide) (Nat.le_of_ble_eq_true rfl) (fun sc2 => ?_)
      refine And.intro (Wdo_142 hW) ?_
      refine And.intro ⟨by omega, Nat.le_of_ble_eq_true rfl, Nat.le_refl _, Nat.le_refl _⟩ (And.intro (Wdo_142 hW) ?_)
      refine C247 (m := (uI (uI m 0 0 (nI 2)) 142 0 (nI 0))) (by omega) hW (LN_u (LN_u ln4 (by decide)) (by decide)) (by omega) ?_
      refine And.intro (fun cr6 => ?_) (fun cr6 => False.elim (absurd (bi_ne0.mp cz3) (bi_eq0.mp cr6)))
      refine And.intro ⟨by omega, Nat.le_of_ble_eq_true rfl, Nat.le_refl _, Nat.le_refl _⟩ ?_
      refine C204 (m := (uI (uI m 0 0 (nI 2)) 142 0 (nI 0))) ?_
      refine And.intro (fun cr15 => False.elim (absurd (bi_ne0.mp cr15) (fun z9 => absurd cz9 (Int32.not_lt.mpr z9.1)))) (fun cr15 => ?_)
      refine And.intro ⟨by omega, Nat.le_of_ble_eq_true rfl, Nat.le_refl _, Nat.le_refl _⟩ (And.intro (Wdo_142 hW) ?_)
      refine C200 (m := (uI (uI m 0 0 (nI 2)) 142 0 (nI 0))) hW ?_
      refine And.intro ⟨rfl, trivial, Nat.le_refl _, Nat.le_refl _⟩ ?_
      exact h2 _ (Rel_ans hR (by decide))
    · -- 9 not: ¬ y < 0
      refine And.intro (fun cz12 => ?_) (fun cz12 => ?_)
      · -- 12 taken: y < nI 96
        obtain ⟨g, hg, rfl⟩ := bi_ne0.mp cz3
        obtain ⟨q, hq1⟩ := RL_1 (s := 4) hX.2.2.1 (by decide) hn4 (show 0 < n4r by omega) (by omega)
        obtain ⟨hq, w, u, ha0, ha1, hq0, hq1w, hw6, hu4, hwu, hgr⟩ := RL_q hq1
        obtain ⟨h158, hqz, hN, h3, ⟨T, hI⟩, hst, hla, hLQ, hSR⟩ := hq1
        have hq6 : mI m q 6 = nI n4r := hLQ.1.2.2.2.2.2.2.1.trans hn4
        have hq5 : mI m q 5 = nI n2r := hLQ.1.2.2.2.2.2.1.trans hn2
        have hJEG := JE_of hI hSR hn2 (by omega) hn4 (by omega) hn8 (by omega)
        obtain ⟨h9, hh9, rfl⟩ := iR_lt0 (k := 96) cz9 cz12 (by decide)
        refine And.intro ⟨by omega, Nat.le_of_ble_eq_true rfl, Nat.le_refl _, Nat.le_refl _⟩ (And.intro (Wdo_0 hW) ?_)
        refine C188 (n := n4r) (np := n8r) (by omega) hW ha hL hab hJEG.1 hn4 (by omega) hn8 (by omega) hX.2.2.2.2.1 (fun m9 hCU => ?_)
        obtain ⟨a22, po, p0k, p012, DD, gg, pr⟩ := hCU
        have hW0 := hW
        have hW : Wd m9.2.2 := by rw [a22]; exact hW0
        have hak8 : ∀ r, 158 ≤ r → mI m9 r = mI m r := fun r hr => po r (by omega) (by omega)
        have ln2 := LN_m ln2 a22 hak8
        have ln4 := LN_m ln4 a22 hak8
        have ln8 := LN_m ln8 a22 hak8
        have ln10 := LN_m ln10 a22 hak8
        have hq : va_rf (mR m9 142 3) = .ref q := by rw [show mR m9 = mR m from congrArg (fun w : WR => w.1) a22]; exact hq
        have hN : NW m9.2.2 q := by rw [a22]; exact hN
        refine And.intro ⟨by omega, Nat.le_of_ble_eq_true rfl, Nat.le_refl _, Nat.le_refl _⟩ (And.intro (DWo_0 (Wd_D1 hW)) ?_)
        refine C15 (x := 112) (g := g) (i := h9) (Wd_D1 hW) (by omega) (by omega) ?_
        refine And.intro ⟨by omega, Nat.le_of_ble_eq_true rfl, Nat.le_refl _, Nat.le_refl _⟩ (And.intro (Wdo_0 hW) ?_)
        refine C177 hW ?_
        refine And.intro ⟨rfl, trivial, Nat.le_refl _, Nat.le_refl _⟩ ?_
        refine h _ _ hW (fun Q2 h2 => ?_)
        refine ent (n := 154) z287 (by decide) rfl (by decide) (Nat.le_of_ble_eq_true rfl) (fun sc2 => ?_)
        refine And.intro (Wdo_142 hW) ?_
        refine And.intro ⟨by omega, Nat.le_of_ble_eq_true rfl, Nat.le_refl _, Nat.le_refl _⟩ (And.intro (Wdo_142 hW) ?_)
        refine C247 (m := (uI (uI m9 0 0 (nI 0)) 142 0 (nI 0))) (by omega) hW (LN_u (LN_u ln4 (by decide)) (by decide)) (by omega) ?_
        refine And.intro (fun cr6 => ?_) (fun cr6 => False.elim (absurd (bi_ne0.mp cz3) (bi_eq0.mp cr6)))
        refine And.intro ⟨by omega, Nat.le_of_ble_eq_true rfl, Nat.le_refl _, Nat.le_refl _⟩ ?_
        refine C204 (m := (uI (uI m9 0 0 (nI 0)) 142 0 (nI 0))) ?_
        refine And.intro (fun cr15 => ?_) (fun cr15 => False.elim (absurd (⟨Int32.not_lt.mp cz9, le95.mpr cz12⟩) (bi_eq0.mp cr15)))
        refine And.intro (Wdo_142 hW) (Exists.intro _ (And.intro hq ?_))
        refine And.intro (NWo_0 hN) ?_
        rw [uI_ne (m := (uI m9 0 0 (nI 0))) (a := 142) (b := q) (by omega)]
        rw [uI_ne (m := m9) (a := 0) (b := q) (by omega)]
        refine And.intro ⟨by omega, Nat.le_of_ble_eq_true rfl, Nat.le_refl _, Nat.le_refl _⟩ (And.intro (Wdo_142 hW) ?_)
        have t22 : (uI (uI m9 0 0 (nI 0)) 142 0 (nI 0)).2.2 = m.2.2 := by rw [uI_22, uI_22]; exact a22
        have tI : ∀ r, r ≠ 0 → r ≠ 142 → ¬ (112 ≤ r ∧ r < 124) → mI (uI (uI m9 0 0 (nI 0)) 142 0 (nI 0)) r = mI m r := fun r h2 h3 h4 => by rw [uI_ne h3, uI_ne h2, po r h2 h4]
        have tD : ∀ f, f < 12 → mI (uI (uI m9 0 0 (nI 0)) 142 0 (nI 0)) (112 + f) = (runF (lam m a) (lam m 20) n4r n8r (mI m a 2) (-nI 1) gg DD) f := fun f hf => by rw [uI_ne (by omega), uI_ne (by omega), pr f hf]
        have t0 : mI (uI (uI m9 0 0 (nI 0)) 142 0 (nI 0)) 0 0 = nI 0 := by rw [uI_ne (by decide), uI_eq, upd_e]
        have t0k : ∀ k, k ≠ 0 → k ≠ 12 → mI (uI (uI m9 0 0 (nI 0)) 142 0 (nI 0)) 0 k = mI m 0 k := fun k hk hk2 => by rw [uI_ne (by decide), uI_eq, upd_o hk, p0k k hk2]
        have t012 : mI (uI (uI m9 0 0 (nI 0)) 142 0 (nI 0)) 0 12 = nI 0 := by rw [uI_ne (by decide), uI_eq, upd_o (by decide), p012]
        have t142 : ∀ k, k ≠ 0 → mI (uI (uI m9 0 0 (nI 0)) 142 0 (nI 0)) 142 k = mI m 142 k := fun k hk => by rw [uI_eq, upd_o hk, uI_ne (by decide), po 142 (by decide) (by decide)]
        generalize (uI (uI m9 0 0 (nI 0)) 142 0 (nI 0)) = m8 at t22 tI tD t0 t0k t012 t142 ⊢
        have hW : Wd m8.2.2 := by rw [t22]; exact hW0
        have hN : NW m8.2.2 q := by rw [t22, ← a22]; exact hN
        have hq : va_rf (mR m8 142 3) = .ref q := by rw [show mR m8 = mR m9 from congrArg (fun w : WR => w.1) (t22.trans a22.symm)]; exact hq
        have hRQ : RQD m8 q (lam m a) (lam m 20) n4r n8r := rq_of hI hSR hn2 (by omega) hn4 (by omega) hn8 (by omega) hLQ hX.2.1 h158 (fun r hr => tI r (by omega) (by omega) (by omega))
        have hlaw : mI m8 q 3 = mI m a 2 := by rw [tI q (by omega) (by omega) (by omega)]; exact hLQ.1.2.2.2.1
        rw [show mI m9 q 3 = mI m a 2 from by rw [po q (by omega) (by omega)]; exact hLQ.1.2.2.2.1]
        have hpp := (bput_self (m := m8) (x := 148) (n := 7)).symm
        generalize (fun f => mI m8 (148 + f)) = DE9 at hpp
        rw [hpp]
        refine D270r (l := mI m a 2) (la := h9) (lb := h9 + 1) (w := -nI 1) (gi := -nI 1) (g0 := gg) (D := DD) (by omega) hW hN hq hRQ (by omega) rfl (fun z => absurd rfl z) (fun z => absurd rfl z) (fun E0 ER hx1 hx2 => ?_)
        clear hpp
        have s22 : (bput m8 148 7 ER).2.2 = m8.2.2 := bput_22
        have sI : ∀ r, r < 148 ∨ 155 ≤ r → mI (bput m8 148 7 ER) r = mI m8 r := fun r hr => by
          rcases Nat.lt_or_ge r 148 with z9 | z9
          · exact bput_lo (by omega)
          · exact bput_hi (by omega)
        have sE : ∀ f, f < 7 → mI (bput m8 148 7 ER) (148 + f) = ER f := fun f hf => bput_r hf
        generalize bput m8 148 7 ER = m7 at s22 sI sE ⊢
        have hW : Wd m7.2.2 := by rw [s22]; exact hW
        have hN : NW m7.2.2 q := by rw [s22]; exact hN
        have hq : va_rf (mR m7 142 3) = .ref q := by rw [show mR m7 = mR m8 from congrArg (fun w : WR => w.1) s22]; exact hq
        have hnm : mI m7 q 10 = nI n8r := by rw [sI q (by omega), tI q (by omega) (by omega) (by omega)]; exact hLQ.1.2.2.2.2.2.2.2.2.2.2.1.trans hn8
        have hst9 : ∀ p, p < n8r → ((mI m7 148 p = nI g ∧ mI m7 150 p = nI 2 ∧ mI m7 149 p ≤ nI h9) ↔ ¬ stF ((hrQ (lam m a) (lam m 20) n4r (beQ (lam m a) n8r (mI m a 2) (-nI 1) gg DD 8) (h9 + 1)) 1) ((hrQ (lam m a) (lam m 20) n4r (beQ (lam m a) n8r (mI m a 2) (-nI 1) gg DD 8) (h9 + 1)) 5) ((hrQ (lam m a) (lam m 20) n4r (beQ (lam m a) n8r (mI m a 2) (-nI 1) gg DD 8) (h9 + 1)) 6) p (nI g) (nI h9) = 0) := fun p hp => by
          rw [show mI m7 148 = ER 0 from sE 0 (by decide), show mI m7 150 = ER 2 from sE 2 (by decide), show mI m7 149 = ER 1 from sE 1 (by decide), hx2.1 0 (by decide), hx2.1 2 (by decide), hx2.1 1 (by decide)]
          exact (DP_st hJEG.1 (by omega) (by omega) (hx1.1 p (by omega))).1
        show Jj sc2 d 0 0 (mth 287) (pg P287 32).1 [some (.ref 142), some (.int (nI g)), some (.int (nI h9)), some (.int (nI 0)), some (.int (nI 0))] [] m7 0 0 Q2
        refine lqu (D := (hrQ (lam m a) (lam m 20) n4r (beQ (lam m a) n8r (mI m a 2) (-nI 1) gg DD 8) (h9 + 1))) (by omega) hW hN hq h158 (by omega) (by omega) (by omega) hnm hst9 ?_ (n8r + 1) 0 (Nat.zero_le _) (by omega)
        have hval : nI (ctN (hrQ (lam m a) (lam m 20) n4r (beQ (lam m a) n8r (mI m a 2) (-nI 1) gg DD 8) (h9 + 1)) g h9 n8r) = mI m9 (112 + 11) (g * 96 + h9) := by rw [pr 11 (by decide)]; exact (qu_v (by omega) (by omega) (by omega) hx1).symm
        rw [hval]
        have y0 : ∀ r, r ≠ 142 → mI (uI (uI m7 142 1 (nI 0)) 142 2 (-nI 1)) r = mI m7 r := fun r g => by rw [uI_ne g, uI_ne g]
        have x0 : ∀ x, x ≠ 0 → x ≠ 1 → x ≠ 2 → mI (uI (uI m7 142 1 (nI 0)) 142 2 (-nI 1)) 142 x = mI m 142 x := fun x g0 g1 g2 => by rw [uI_eq, upd_o g2, uI_eq, upd_o g1, sI 142 (by decide), t142 x g0]
        have y00 : mI (uI (uI m7 142 1 (nI 0)) 142 2 (-nI 1)) 0 0 = nI 0 := by rw [y0 0 (by decide), sI 0 (by decide), t0]
        exact h2 _ (Rel_day (g := gg) (D := DD) hW0 hz hA hX (by rw [uI_22, uI_22, s22]; exact t22) (fun r g1 g2 g3 g4 => by rw [y0 r g3, sI r (Classical.byContradiction fun z9 => g1 (by unfold scr; omega)), tI r g2 g3 (by omega)]) (fun _ => by rw [y0 140 (by decide), sI 140 (by decide), tI 140 (by decide) (by decide) (by decide)]) hn4 (by omega) hn8 (by omega) (by rw [y0 0 (by decide), sI 0 (by decide)]; exact t012) (fun f hf => by rw [y0 (112 + f) (by omega), sI (112 + f) (by omega)]; exact tD f hf) (x0 6 (by decide) (by decide) (by decide)) (x0 21 (by decide) (by decide) (by decide)) (x0 22 (by decide) (by decide) (by decide)) ⟨by rw [y00, uI_eq, upd_o (by decide), uI_eq, upd_e], by rw [x0 14 (by decide) (by decide) (by decide), y0 0 (by decide), sI 0 (by decide), t0k 1 (by decide) (by decide)]; exact hS.2.1, by rw [y00, uI_eq, upd_e, if_neg (by decide)]⟩)
      · -- 12 not: ¬ y < nI 96
        refine And.intro ⟨by omega, Nat.le_of_ble_eq_true rfl, Nat.le_refl _, Nat.le_refl _⟩ (And.intro (Wdo_0 hW) ?_)
        refine C176 hW ?_
        refine And.intro ⟨rfl, trivial, Nat.le_refl _, Nat.le_refl _⟩ ?_
        refine h _ _ hW (fun Q2 h2 => ?_)
        refine ent (n := 154) z287 (by decide) rfl (by decide) (Nat.le_of_ble_eq_true rfl) (fun sc2 => ?_)
        refine And.intro (Wdo_142 hW) ?_
        refine And.intro ⟨by omega, Nat.le_of_ble_eq_true rfl, Nat.le_refl _, Nat.le_refl _⟩ (And.intro (Wdo_142 hW) ?_)
        refine C247 (m := (uI (uI m 0 0 (nI 2)) 142 0 (nI 0))) (by omega) hW (LN_u (LN_u ln4 (by decide)) (by decide)) (by omega) ?_
        refine And.intro (fun cr6 => ?_) (fun cr6 => False.elim (absurd (bi_ne0.mp cz3) (bi_eq0.mp cr6)))
        refine And.intro ⟨by omega, Nat.le_of_ble_eq_true rfl, Nat.le_refl _, Nat.le_refl _⟩ ?_
        refine C204 (m := (uI (uI m 0 0 (nI 2)) 142 0 (nI 0))) ?_
        refine And.intro (fun cr15 => False.elim (absurd (bi_ne0.mp cr15) (fun z9 => absurd (le95.mp z9.2) cz12))) (fun cr15 => ?_)
        refine And.intro ⟨by omega, Nat.le_of_ble_eq_true rfl, Nat.le_refl _, Nat.le_refl _⟩ (And.intro (Wdo_142 hW) ?_)
        refine C200 (m := (uI (uI m 0 0 (nI 2)) 142 0 (nI 0))) hW ?_
        refine And.intro ⟨rfl, trivial, Nat.le_refl _, Nat.le_refl _⟩ ?_
        exact h2 _ (Rel_ans hR (by decide))
  · -- 3 not: bi (iR x n4r) = 0
    refine And.intro ⟨by omega, Nat.le_of_ble_eq_true rfl, Nat.le_refl _, Nat.le_refl _⟩ (And.intro (Wdo_0 hW) ?_)
    refine C176 hW ?_
    refine And.intro ⟨rfl, trivial, Nat.le_refl _, Nat.le_refl _⟩ ?_
    refine h _ _ hW (fun Q2 h2 => ?_)
    refine ent (n := 154) z287 (by decide) rfl (by decide) (Nat.le_of_ble_eq_true rfl) (fun sc2 => ?_)
    refine And.intro (Wdo_142 hW) ?_
    refine And.intro ⟨by omega, Nat.le_of_ble_eq_true rfl, Nat.le_refl _, Nat.le_refl _⟩ (And.intro (Wdo_142 hW) ?_)
    refine C247 (m := (uI (uI m 0 0 (nI 1)) 142 0 (nI 0))) (by omega) hW (LN_u (LN_u ln4 (by decide)) (by decide)) (by omega) ?_
    refine And.intro (fun cr6 => False.elim (absurd (bi_ne0.mp cr6) (bi_eq0.mp cz3))) (fun cr6 => ?_)
    refine And.intro ⟨by omega, Nat.le_of_ble_eq_true rfl, Nat.le_refl _, Nat.le_refl _⟩ (And.intro (Wdo_142 hW) ?_)
    refine C200 (m := (uI (uI m 0 0 (nI 1)) 142 0 (nI 0))) hW ?_
    refine And.intro ⟨rfl, trivial, Nat.le_refl _, Nat.le_refl _⟩ ?_
    exact h2 _ (Rel_ans hR (by decide))
