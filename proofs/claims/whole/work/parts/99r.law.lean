theorem ta_k {f g h v : Nat → Int32} {w y : Int32} {p : Nat} (h1 : f p = nI 3) (h7 : v p = nI 0) : taS f g h v w p y = y := by
  have ez1 : ltF f g h p = nI 0 := by
    unfold ltF
    rw [if_neg (by rw [h1]; decide)]
  unfold taS
  rw [ez1, h7, h1]
  split
  · exact add_z
  · split
    · rw [if_pos (show nI 0 = (0 : Int32) from rfl)]; exact add_z
    · split
      · rw [if_neg (by decide)]
      · rw [if_neg (by decide)]
theorem ta_np {Λ D E : Nat → Nat → Int32} {np : Nat} {w0 w : Int32} (h : FE Λ np w0 D E) : ∀ i, np + i ≤ 8 → taQ (D 1) (D 2) (D 3) (D 7) w (np + i) = taQ (D 1) (D 2) (D 3) (D 7) w np
  | 0, _ => rfl
  | i + 1, hi => by
    have h9 := (h (np + i) (by omega)).2 (fun z => absurd z.1 (by omega))
    rw [show taQ (D 1) (D 2) (D 3) (D 7) w (np + (i + 1)) = taS (D 1) (D 2) (D 3) (D 7) w (np + i) (taQ (D 1) (D 2) (D 3) (D 7) w (np + i)) from fo_s, ta_k h9.1 h9.2]
    exact ta_np h i (by omega)
theorem ta_8 {Λ D E : Nat → Nat → Int32} {np : Nat} {w0 w : Int32} (h : FE Λ np w0 D E) (h8 : np ≤ 8) : taQ (D 1) (D 2) (D 3) (D 7) w 8 = taQ (D 1) (D 2) (D 3) (D 7) w np := by
  obtain ⟨i, hi⟩ := Nat.exists_eq_add_of_le h8
  have := ta_np (w := w) h i (by omega)
  rw [← hi] at this
  exact this
theorem le2_3 {x : Int32} : x ≤ nI 2 ↔ ¬ nI 3 ≤ x := by
  rw [Int32.le_iff_toInt_le, Int32.le_iff_toInt_le, nI_toInt (by decide), nI_toInt (by decide)]
  omega
theorem llw {sc : Nat × (Nat → Int32)} {d : Nat} {m : Mm} {Q : Option Value → Mm → Prop} {q np : Nat} {l w : Int32} {D : Nat → Nat → Int32} (hd : 2 ≤ d) (hW : Wd m.2.2) (hN : NW m.2.2 q) (hq : va_rf (mR m 142 3) = .ref q) (h158 : 158 ≤ q) (hnp8 : np ≤ 8) (hnp : mI m q 10 = nI np) (hv : ∀ p, p < np → mI m 150 p = D 1 p ∧ mI m 151 p = D 2 p ∧ mI m 152 p = D 7 p ∧ mI m (q + 12) p = D 3 p) (hQ : Q (some (.int (taQ (D 1) (D 2) (D 3) (D 7) w np))) (uI (uI m 142 1 (nI 0)) 142 2 (-nI 1)))  : ∀ (j p : Nat), p ≤ np → np + 1 ≤ p + j → Jj sc d 0 0 (mth 286) (pg P286 30).1 [some (.ref 142), some (.int l), some (.int w), some (.int (taQ (D 1) (D 2) (D 3) (D 7) w p)), some (.int (nI p))] [] m 0 0 Q := by
  intro j
  induction j with
  | zero => intro p h1 h2; omega
  | succ j ih =>
    intro p h1 h2
    refine J_w z286 (i := 30) (by decide) 192 ?_
    refine And.intro (Wdo_142 hW) (Exists.intro _ (And.intro hq ?_))
    refine And.intro (NWo_0 hN) ?_
    rw [hnp]
    refine And.intro (fun cz34 => ?_) (fun cz34 => ?_)
    · -- 34 taken: nI np ≤ nI p
      have kz34 : np ≤ p := kle (a := np) (b := p) rfl rfl (by omega) (by omega) cz34
      refine And.intro ⟨by omega, Nat.le_of_ble_eq_true rfl, Nat.le_refl _, Nat.le_refl _⟩ (And.intro (Wdo_142 hW) ?_)
      refine C202 (m := m) hW ?_
      refine And.intro ⟨rfl, trivial, Nat.le_refl _, Nat.le_refl _⟩ ?_
      rw [show p = np by omega]
      exact hQ
    · -- 34 not: ¬ nI np ≤ nI p
      have kz34 : p < np := knle (a := np) (b := p) rfl rfl (by omega) (by omega) cz34
      refine And.intro (fun cz36 => ?_) (And.intro (fun cz36 => ?_) (And.intro (fun cz36 => ?_) (And.intro (fun cz36 => ?_) (trivial))))
      · -- case d
        refine And.intro (Wdo_142 hW) (Exists.intro _ (And.intro (Wdr_142_25 hW) ?_))
        refine And.intro (Wdi_150 hW (vi rfl (by omega))) ?_
        rw [nI_clamp (show p < 2 ^ 31 by omega)]
        rw [((hv p kz34).1)]
        refine And.intro (fun cz74 => ?_) (fun cz74 => ?_)
        · -- 74 taken: ¬ D 1 p = nI 1
          show Jj sc d 0 0 (mth 286) (pg P286 30).1 [some (.ref 142), some (.int l), some (.int w), some (.int ((taQ (D 1) (D 2) (D 3) (D 7) w p) + nI 0)), some (.int (nI p + nI 1))] [] m 0 0 Q
          rw [show nI p + nI 1 = nI (p + 1) from by simp only [nI_add, pk_mul]]
          have w9 := ih (p + 1) (by omega) (by omega)
          rw [show taQ (D 1) (D 2) (D 3) (D 7) w (p + 1) = _ from fo_s] at w9
          unfold taS at w9
          rw [if_neg (fun z : w = nI 2 => absurd (show (nI 2).toInt < 0 ∨ (3 : Int) ≤ (nI 2).toInt from z ▸ cz36) (by decide)), if_neg (fun z : w = nI 1 => absurd (show (nI 1).toInt < 0 ∨ (3 : Int) ≤ (nI 1).toInt from z ▸ cz36) (by decide)), if_neg (fun z : w = (0 : Int32) => absurd (show ((0 : Int32)).toInt < 0 ∨ (3 : Int) ≤ ((0 : Int32)).toInt from z ▸ cz36) (by decide)), if_neg cz74] at w9
          rw [add_z]
          exact w9
        · -- 74 not: D 1 p = nI 1
          show Jj sc d 0 0 (mth 286) (pg P286 30).1 [some (.ref 142), some (.int l), some (.int w), some (.int ((taQ (D 1) (D 2) (D 3) (D 7) w p) + nI 1)), some (.int (nI p + nI 1))] [] m 0 0 Q
          rw [show nI p + nI 1 = nI (p + 1) from by simp only [nI_add, pk_mul]]
          have w9 := ih (p + 1) (by omega) (by omega)
          rw [show taQ (D 1) (D 2) (D 3) (D 7) w (p + 1) = _ from fo_s] at w9
          unfold taS at w9
          rw [if_neg (fun z : w = nI 2 => absurd (show (nI 2).toInt < 0 ∨ (3 : Int) ≤ (nI 2).toInt from z ▸ cz36) (by decide)), if_neg (fun z : w = nI 1 => absurd (show (nI 1).toInt < 0 ∨ (3 : Int) ≤ (nI 1).toInt from z ▸ cz36) (by decide)), if_neg (fun z : w = (0 : Int32) => absurd (show ((0 : Int32)).toInt < 0 ∨ (3 : Int) ≤ ((0 : Int32)).toInt from z ▸ cz36) (by decide)), if_pos cz74] at w9
          exact w9
      · -- case 0
        refine And.intro (Wdo_142 hW) (Exists.intro _ (And.intro (Wdr_142_25 hW) ?_))
        refine And.intro (Wdi_150 hW (vi rfl (by omega))) ?_
        rw [nI_clamp (show p < 2 ^ 31 by omega)]
        rw [((hv p kz34).1)]
        refine And.intro (fun cz42 => ?_) (fun cz42 => ?_)
        · -- 42 taken: ¬ D 1 p = 0
          show Jj sc d 0 0 (mth 286) (pg P286 30).1 [some (.ref 142), some (.int l), some (.int w), some (.int ((taQ (D 1) (D 2) (D 3) (D 7) w p) + nI 0)), some (.int (nI p + nI 1))] [] m 0 0 Q
          rw [show nI p + nI 1 = nI (p + 1) from by simp only [nI_add, pk_mul]]
          have w9 := ih (p + 1) (by omega) (by omega)
          rw [show taQ (D 1) (D 2) (D 3) (D 7) w (p + 1) = _ from fo_s] at w9
          unfold taS at w9
          rw [if_neg (fun z => absurd (cz36.symm.trans z) (by decide)), if_neg (fun z => absurd (cz36.symm.trans z) (by decide)), if_pos (show w = 0 from cz36), if_neg (show ¬ D 1 p = nI 0 from cz42)] at w9
          rw [add_z]
          exact w9
        · -- 42 not: D 1 p = 0
          show Jj sc d 0 0 (mth 286) (pg P286 30).1 [some (.ref 142), some (.int l), some (.int w), some (.int ((taQ (D 1) (D 2) (D 3) (D 7) w p) + nI 1)), some (.int (nI p + nI 1))] [] m 0 0 Q
          rw [show nI p + nI 1 = nI (p + 1) from by simp only [nI_add, pk_mul]]
          have w9 := ih (p + 1) (by omega) (by omega)
          rw [show taQ (D 1) (D 2) (D 3) (D 7) w (p + 1) = _ from fo_s] at w9
          unfold taS at w9
          rw [if_neg (fun z => absurd (cz36.symm.trans z) (by decide)), if_neg (fun z => absurd (cz36.symm.trans z) (by decide)), if_pos (show w = 0 from cz36), if_pos (show D 1 p = nI 0 from cz42)] at w9
          exact w9
      · -- case 1
        refine And.intro ⟨by omega, Nat.le_of_ble_eq_true rfl, Nat.le_refl _, Nat.le_refl _⟩ (And.intro (Wdo_142 hW) ?_)
        refine D284 (m := m) (q := q) (p := p) (due := D 3) hW hN hq (by omega) (hv p kz34).2.2.2 ?_
        rw [show ltF (mI m 150) (mI m 151) (D 3) p = ltF (D 1) (D 2) (D 3) p from by unfold ltF; rw [(hv p kz34).1, (hv p kz34).2.1]]
        refine And.intro (fun cz53 => ?_) (fun cz53 => ?_)
        · -- 53 taken: ltF (D 1) (D 2) (D 3) p = 0
          show Jj sc d 0 0 (mth 286) (pg P286 30).1 [some (.ref 142), some (.int l), some (.int w), some (.int ((taQ (D 1) (D 2) (D 3) (D 7) w p) + nI 0)), some (.int (nI p + nI 1))] [] m 0 0 Q
          rw [show nI p + nI 1 = nI (p + 1) from by simp only [nI_add, pk_mul]]
          have w9 := ih (p + 1) (by omega) (by omega)
          rw [show taQ (D 1) (D 2) (D 3) (D 7) w (p + 1) = _ from fo_s] at w9
          unfold taS at w9
          rw [if_neg (fun z => absurd (cz36.symm.trans z) (by decide)), if_pos cz36, if_pos cz53] at w9
          exact w9
        · -- 53 not: ¬ ltF (D 1) (D 2) (D 3) p = 0
          show Jj sc d 0 0 (mth 286) (pg P286 30).1 [some (.ref 142), some (.int l), some (.int w), some (.int ((taQ (D 1) (D 2) (D 3) (D 7) w p) + nI 1)), some (.int (nI p + nI 1))] [] m 0 0 Q
          rw [show nI p + nI 1 = nI (p + 1) from by simp only [nI_add, pk_mul]]
          have w9 := ih (p + 1) (by omega) (by omega)
          rw [show taQ (D 1) (D 2) (D 3) (D 7) w (p + 1) = _ from fo_s] at w9
          unfold taS at w9
          rw [if_neg (fun z => absurd (cz36.symm.trans z) (by decide)), if_pos cz36, if_neg cz53] at w9
          exact w9
      · -- case 2
        refine And.intro (Wdo_142 hW) (Exists.intro _ (And.intro (Wdr_142_27 hW) ?_))
        refine And.intro (Wdi_152 hW (vi rfl (by omega))) ?_
        rw [nI_clamp (show p < 2 ^ 31 by omega)]
        rw [((hv p kz34).2.2.1)]
        show Jj sc d 0 0 (mth 286) (pg P286 30).1 [some (.ref 142), some (.int l), some (.int w), some (.int ((taQ (D 1) (D 2) (D 3) (D 7) w p) + (D 7 p))), some (.int (nI p + nI 1))] [] m 0 0 Q
        rw [show nI p + nI 1 = nI (p + 1) from by simp only [nI_add, pk_mul]]
        have w9 := ih (p + 1) (by omega) (by omega)
        rw [show taQ (D 1) (D 2) (D 3) (D 7) w (p + 1) = _ from fo_s] at w9
        unfold taS at w9
        rw [if_pos cz36] at w9
        exact w9
theorem P_law {d : Nat} {m : Mm} {Q : Option Value → Mm → Prop} {z : Nat} {x y : Int32} (hd : 16 ≤ d) (hR : Rel z m) (h : ∀ (r : Int32) m1, Wd m1.2.2 → (∀ Q2 : Option Value → Mm → Prop, (∀ m2, Rel z m2 → Q2 (some (.int r)) m2) → Cc d 0 0 286 [.ref 142, .int x, .int y] m1 Q2) → Q (some (.int r)) m1) : Cc d 0 0 141 [.ref 0, .int x, .int y] m Q := by
  obtain ⟨hW, hz, hS, a, b, hA, hX⟩ := id hR
  obtain ⟨hL, hLb, hab, ha, hb⟩ := RelA_L hW hA
  obtain ⟨n2r, hn2, bn2, ln2⟩ := RL_n (s := 2) (f := 5) hX.2.2.1 (by decide) (fun _ _ h => h.2.2.2.2.2.1)
  change n2r ≤ 6 at bn2
  obtain ⟨n4r, hn4, bn4, ln4⟩ := RL_n (s := 4) (f := 6) hX.2.2.1 (by decide) (fun _ _ h => h.2.2.2.2.2.2.1)
  change n4r ≤ 6 at bn4
  obtain ⟨n8r, hn8, bn8, ln8⟩ := RL_n (s := 8) (f := 10) hX.2.2.1 (by decide) (fun _ _ h => h.2.2.2.2.2.2.2.2.2.2.1)
  change n8r ≤ 8 at bn8
  obtain ⟨n10r, hn10, bn10, ln10⟩ := RL_n (s := 10) (f := 12) hX.2.2.1 (by decide) (fun _ _ h => h.2.2.2.2.2.2.2.2.2.2.2.2.1)
  change n10r ≤ 4 at bn10
  rcases RL_st hX.2.2.1 with ⟨hL0, hst0⟩ | ⟨q, hq1, hst0⟩
  · skip
    refine ent (n := 90) z141 (by decide) rfl (by decide) (Nat.le_of_ble_eq_true rfl) (fun sc => ?_)
    refine And.intro (Wdo_0 hW) (Exists.intro _ (And.intro ha ?_))
    refine And.intro ⟨by omega, Nat.le_of_ble_eq_true rfl, Nat.le_refl _, Nat.le_refl _⟩ (And.intro (LWo_0 hL) ?_)
    refine C21 hL ?_
    refine And.intro (fun cz3 => ?_) (fun cz3 => False.elim (absurd (bi_ne0.mp cz3) (hst0)))
    refine And.intro ⟨by omega, Nat.le_of_ble_eq_true rfl, Nat.le_refl _, Nat.le_refl _⟩ (And.intro (Wdo_0 hW) ?_)
    refine C176 hW ?_
    refine And.intro ⟨rfl, trivial, Nat.le_refl _, Nat.le_refl _⟩ ?_
    refine h _ _ hW (fun Q2 h2 => ?_)
    refine ent (n := 192) z286 (by decide) rfl (by decide) (Nat.le_of_ble_eq_true rfl) (fun sc2 => ?_)
    refine And.intro (Wdo_142 hW) ?_
    refine And.intro (Wdo_142 hW) (Exists.intro _ (And.intro (show va_rf (mR m 142 3) = .null by rw [hL0.1]; rfl) ?_))
    refine And.intro ⟨by omega, Nat.le_of_ble_eq_true rfl, Nat.le_refl _, Nat.le_refl _⟩ (And.intro (Wdo_142 hW) ?_)
    refine C200 (m := (uI (uI m 0 0 (nI 1)) 142 0 (nI 0))) hW ?_
    refine And.intro ⟨rfl, trivial, Nat.le_refl _, Nat.le_refl _⟩ ?_
    exact h2 _ (Rel_ans hR (by decide))
  · skip
    obtain ⟨hq, w, u, ha0, ha1, hq0, hq1w, hw6, hu4, hwu, hgr⟩ := RL_q hq1
    obtain ⟨h158, hqz, hN, h3, ⟨T, hI⟩, hst, hla, hLQ, hSR⟩ := hq1
    have hq6 : mI m q 6 = nI n4r := hLQ.1.2.2.2.2.2.2.1.trans hn4
    have hq5 : mI m q 5 = nI n2r := hLQ.1.2.2.2.2.2.1.trans hn2
    have hJEG := JE_of hI hSR hn2 (by omega) hn4 (by omega) hn8 (by omega)
    refine ent (n := 90) z141 (by decide) rfl (by decide) (Nat.le_of_ble_eq_true rfl) (fun sc => ?_)
    refine And.intro (Wdo_0 hW) (Exists.intro _ (And.intro ha ?_))
    refine And.intro ⟨by omega, Nat.le_of_ble_eq_true rfl, Nat.le_refl _, Nat.le_refl _⟩ (And.intro (LWo_0 hL) ?_)
    refine C21 hL ?_
    refine And.intro (fun cz3 => False.elim (absurd (hst0) (bi_eq0.mp cz3))) (fun cz3 => ?_)
    refine And.intro (fun cz5 => ?_) (fun cz5 => ?_)
    · -- 5 taken: x < 0
      refine And.intro ⟨by omega, Nat.le_of_ble_eq_true rfl, Nat.le_refl _, Nat.le_refl _⟩ (And.intro (Wdo_0 hW) ?_)
      refine C176 hW ?_
      refine And.intro ⟨rfl, trivial, Nat.le_refl _, Nat.le_refl _⟩ ?_
      refine h _ _ hW (fun Q2 h2 => ?_)
      refine ent (n := 192) z286 (by decide) rfl (by decide) (Nat.le_of_ble_eq_true rfl) (fun sc2 => ?_)
      refine And.intro (Wdo_142 hW) ?_
      refine And.intro (Wdo_142 hW) (Exists.intro _ (And.intro hq ?_))
      refine And.intro ⟨by omega, Nat.le_of_ble_eq_true rfl, Nat.le_refl _, Nat.le_refl _⟩ ?_
      refine C204 (m := (uI (uI m 0 0 (nI 1)) 142 0 (nI 0))) ?_
      refine And.intro (fun cr10 => ?_) (fun cr10 => False.elim (absurd (bi_ne0.mp cr10) (fun z9 => absurd cz5 (Int32.not_lt.mpr z9.1))))
      refine And.intro ⟨by omega, Nat.le_of_ble_eq_true rfl, Nat.le_refl _, Nat.le_refl _⟩ (And.intro (Wdo_142 hW) ?_)
      refine C200 (m := (uI (uI m 0 0 (nI 1)) 142 0 (nI 0))) hW ?_
      refine And.intro ⟨rfl, trivial, Nat.le_refl _, Nat.le_refl _⟩ ?_
      exact h2 _ (Rel_ans hR (by decide))
    · -- 5 not: ¬ x < 0
      refine And.intro (fun cz8 => ?_) (fun cz8 => ?_)
      · -- 8 taken: nI 3 ≤ x
        refine And.intro ⟨by omega, Nat.le_of_ble_eq_true rfl, Nat.le_refl _, Nat.le_refl _⟩ (And.intro (Wdo_0 hW) ?_)
        refine C176 hW ?_
        refine And.intro ⟨rfl, trivial, Nat.le_refl _, Nat.le_refl _⟩ ?_
        refine h _ _ hW (fun Q2 h2 => ?_)
        refine ent (n := 192) z286 (by decide) rfl (by decide) (Nat.le_of_ble_eq_true rfl) (fun sc2 => ?_)
        refine And.intro (Wdo_142 hW) ?_
        refine And.intro (Wdo_142 hW) (Exists.intro _ (And.intro hq ?_))
        refine And.intro ⟨by omega, Nat.le_of_ble_eq_true rfl, Nat.le_refl _, Nat.le_refl _⟩ ?_
        refine C204 (m := (uI (uI m 0 0 (nI 1)) 142 0 (nI 0))) ?_
        refine And.intro (fun cr10 => ?_) (fun cr10 => False.elim (absurd (bi_ne0.mp cr10) (fun z9 => absurd cz8 (le2_3.mp z9.2))))
        refine And.intro ⟨by omega, Nat.le_of_ble_eq_true rfl, Nat.le_refl _, Nat.le_refl _⟩ (And.intro (Wdo_142 hW) ?_)
        refine C200 (m := (uI (uI m 0 0 (nI 1)) 142 0 (nI 0))) hW ?_
        refine And.intro ⟨rfl, trivial, Nat.le_refl _, Nat.le_refl _⟩ ?_
        exact h2 _ (Rel_ans hR (by decide))
      · -- 8 not: ¬ nI 3 ≤ x
        refine And.intro (fun cz10 => ?_) (fun cz10 => ?_)
        · -- 10 taken: y < 0
          refine And.intro ⟨by omega, Nat.le_of_ble_eq_true rfl, Nat.le_refl _, Nat.le_refl _⟩ (And.intro (Wdo_0 hW) ?_)
          refine C176 hW ?_
          refine And.intro ⟨rfl, trivial, Nat.le_refl _, Nat.le_refl _⟩ ?_
          refine h _ _ hW (fun Q2 h2 => ?_)
          refine ent (n := 192) z286 (by decide) rfl (by decide) (Nat.le_of_ble_eq_true rfl) (fun sc2 => ?_)
          refine And.intro (Wdo_142 hW) ?_
          refine And.intro (Wdo_142 hW) (Exists.intro _ (And.intro hq ?_))
          refine And.intro ⟨by omega, Nat.le_of_ble_eq_true rfl, Nat.le_refl _, Nat.le_refl _⟩ ?_
          refine C204 (m := (uI (uI m 0 0 (nI 1)) 142 0 (nI 0))) ?_
          refine And.intro (fun cr10 => False.elim (absurd (⟨Int32.not_lt.mp cz5, le2_3.mpr cz8⟩) (bi_eq0.mp cr10))) (fun cr10 => ?_)
          refine And.intro ⟨by omega, Nat.le_of_ble_eq_true rfl, Nat.le_refl _, Nat.le_refl _⟩ ?_
          refine C204 (m := (uI (uI m 0 0 (nI 1)) 142 0 (nI 0))) ?_
          refine And.intro (fun cr15 => False.elim (absurd (bi_ne0.mp cr15) (fun z9 => absurd cz10 (Int32.not_lt.mpr z9.1)))) (fun cr15 => ?_)
          refine And.intro ⟨by omega, Nat.le_of_ble_eq_true rfl, Nat.le_refl _, Nat.le_refl _⟩ (And.intro (Wdo_142 hW) ?_)
          refine C200 (m := (uI (uI m 0 0 (nI 1)) 142 0 (nI 0))) hW ?_
          refine And.intro ⟨rfl, trivial, Nat.le_refl _, Nat.le_refl _⟩ ?_
          exact h2 _ (Rel_ans hR (by decide))
        · -- 10 not: ¬ y < 0
          refine And.intro (fun cz13 => ?_) (fun cz13 => ?_)
          · -- 13 taken: y ≤ nI 3
            refine And.intro (Wdo_0 hW) (Exists.intro _ (And.intro (Wdr_0_8 hW) ?_))
            refine And.intro (Wdo_0 hW) (Exists.intro _ (And.intro ha ?_))
            refine And.intro (Wdo_0 hW) (Exists.intro _ (And.intro (Wdr_0_4 hW) ?_))
            refine And.intro ⟨by omega, Nat.le_of_ble_eq_true rfl, Nat.le_refl _, Nat.le_refl _⟩ (And.intro (DWo_0 (Wd_D2 hW)) ?_)
            have hpp := (bput_self (m := m) (x := 124) (n := 12)).symm
            generalize (fun f => mI m (124 + f)) = DD at hpp
            rw [hpp]
            refine D1 (x := 124) (n := n4r) (np := n8r) (g0 := 0) (a := a) (b := 20) (Wd_D2 hW) hL (Wd_S hW) (by omega) (by omega) (by omega) hJEG.1 hn4 (by omega) hn8 (by omega) (fun z => absurd rfl z) (fun z => absurd rfl z) ?_
            clear hpp
            have po : ∀ r, ¬ (124 ≤ r ∧ r < 136) → mI (bput m 124 12 (runF (lam m a) (lam m 20) n4r n8r x (-nI 1) 0 DD)) r = mI m r := fun r hr => by
              rcases Nat.lt_or_ge r 124 with z9 | z9
              · exact bput_lo (by omega)
              · exact bput_hi (by omega)
            have pr : ∀ f, f < 12 → mI (bput m 124 12 (runF (lam m a) (lam m 20) n4r n8r x (-nI 1) 0 DD)) (124 + f) = (runF (lam m a) (lam m 20) n4r n8r x (-nI 1) 0 DD) f := fun f hf => bput_r hf
            have a22 : (bput m 124 12 (runF (lam m a) (lam m 20) n4r n8r x (-nI 1) 0 DD)).2.2 = m.2.2 := bput_22
            generalize bput m 124 12 (runF (lam m a) (lam m 20) n4r n8r x (-nI 1) 0 DD) = m9 at po pr a22 ⊢
            have hW0 := hW
            have hW : Wd m9.2.2 := by rw [a22]; exact hW0
            have hak8 : ∀ r, 158 ≤ r → mI m9 r = mI m r := fun r hr => po r (by omega)
            have ln2 := LN_m ln2 a22 hak8
            have ln4 := LN_m ln4 a22 hak8
            have ln8 := LN_m ln8 a22 hak8
            have ln10 := LN_m ln10 a22 hak8
            have hq : va_rf (mR m9 142 3) = .ref q := by rw [show mR m9 = mR m from congrArg (fun w : WR => w.1) a22]; exact hq
            have hN : NW m9.2.2 q := by rw [a22]; exact hN
            refine And.intro (Wdo_0 hW) (Exists.intro _ (And.intro (Wdr_0_8 hW) ?_))
            refine And.intro ⟨by omega, Nat.le_of_ble_eq_true rfl, Nat.le_refl _, Nat.le_refl _⟩ (And.intro (DWo_0 (Wd_D2 hW)) ?_)
            refine C16 (x := 124) (Wd_D2 hW) (by omega) ?_
            refine And.intro ⟨by omega, Nat.le_of_ble_eq_true rfl, Nat.le_refl _, Nat.le_refl _⟩ (And.intro (Wdo_0 hW) ?_)
            refine C177 hW ?_
            refine And.intro ⟨rfl, trivial, Nat.le_refl _, Nat.le_refl _⟩ ?_
            refine h _ _ hW (fun Q2 h2 => ?_)
            refine ent (n := 192) z286 (by decide) rfl (by decide) (Nat.le_of_ble_eq_true rfl) (fun sc2 => ?_)
            refine And.intro (Wdo_142 hW) ?_
            refine And.intro (Wdo_142 hW) (Exists.intro _ (And.intro hq ?_))
            refine And.intro ⟨by omega, Nat.le_of_ble_eq_true rfl, Nat.le_refl _, Nat.le_refl _⟩ ?_
            refine C204 (m := (uI (uI m9 0 0 (nI 0)) 142 0 (nI 0))) ?_
            refine And.intro (fun cr10 => False.elim (absurd (⟨Int32.not_lt.mp cz5, le2_3.mpr cz8⟩) (bi_eq0.mp cr10))) (fun cr10 => ?_)
            refine And.intro ⟨by omega, Nat.le_of_ble_eq_true rfl, Nat.le_refl _, Nat.le_refl _⟩ ?_
            refine C204 (m := (uI (uI m9 0 0 (nI 0)) 142 0 (nI 0))) ?_
            refine And.intro (fun cr15 => ?_) (fun cr15 => False.elim (absurd (⟨Int32.not_lt.mp cz10, cz13⟩) (bi_eq0.mp cr15)))
            refine And.intro ⟨by omega, Nat.le_of_ble_eq_true rfl, Nat.le_refl _, Nat.le_refl _⟩ (And.intro (Wdo_142 hW) ?_)
            have t22 : (uI (uI m9 0 0 (nI 0)) 142 0 (nI 0)).2.2 = m.2.2 := by rw [uI_22, uI_22]; exact a22
            have tI : ∀ r, r ≠ 0 → r ≠ 142 → ¬ (124 ≤ r ∧ r < 136) → mI (uI (uI m9 0 0 (nI 0)) 142 0 (nI 0)) r = mI m r := fun r h2 h3 h4 => by rw [uI_ne h3, uI_ne h2, po r h4]
            have t0 : mI (uI (uI m9 0 0 (nI 0)) 142 0 (nI 0)) 0 0 = nI 0 := by rw [uI_ne (by decide), uI_eq, upd_e]
            have t0k : ∀ k, k ≠ 0 → mI (uI (uI m9 0 0 (nI 0)) 142 0 (nI 0)) 0 k = mI m 0 k := fun k hk => by rw [uI_ne (by decide), uI_eq, upd_o hk, po 0 (by decide)]
            have t142 : ∀ k, k ≠ 0 → mI (uI (uI m9 0 0 (nI 0)) 142 0 (nI 0)) 142 k = mI m 142 k := fun k hk => by rw [uI_eq, upd_o hk, uI_ne (by decide), po 142 (by decide)]
            generalize (uI (uI m9 0 0 (nI 0)) 142 0 (nI 0)) = m8 at t22 tI t0 t0k t142 ⊢
            have hW : Wd m8.2.2 := by rw [t22]; exact hW0
            have hN : NW m8.2.2 q := by rw [t22, ← a22]; exact hN
            have hq : va_rf (mR m8 142 3) = .ref q := by rw [show mR m8 = mR m9 from congrArg (fun w : WR => w.1) (t22.trans a22.symm)]; exact hq
            have hRQ : RQD m8 q (lam m a) (lam m 20) n4r n8r := rq_of hI hSR hn2 (by omega) hn4 (by omega) hn8 (by omega) hLQ hX.2.1 h158 (fun r hr => tI r (by omega) (by omega) (by omega))
            have hlaw : mI m8 q 3 = mI m a 2 := by rw [tI q (by omega) (by omega) (by omega)]; exact hLQ.1.2.2.2.1
            have hpp := (bput_self (m := m8) (x := 148) (n := 7)).symm
            generalize (fun f => mI m8 (148 + f)) = DE9 at hpp
            rw [hpp]
            refine D270r (l := x) (la := 95) (lb := 96) (w := -nI 1) (gi := -nI 1) (g0 := 0) (D := DD) (by omega) hW hN hq hRQ (by decide) rfl (fun z => absurd rfl z) (fun z => absurd rfl z) (fun E0 ER hx1 hx2 => ?_)
            clear hpp
            have hFE := FE_of hRQ.2.2.2.2.2.2.2.2.2.2.2.2.2.2 hx1 hx2
            clear hx1 hx2
            have s22 : (bput m8 148 7 ER).2.2 = m8.2.2 := bput_22
            have sI : ∀ r, r < 148 ∨ 155 ≤ r → mI (bput m8 148 7 ER) r = mI m8 r := fun r hr => by
              rcases Nat.lt_or_ge r 148 with z9 | z9
              · exact bput_lo (by omega)
              · exact bput_hi (by omega)
            have sE : ∀ f, f < 7 → mI (bput m8 148 7 ER) (148 + f) = ER f := fun f hf => bput_r hf
            generalize bput m8 148 7 ER = m7 at s22 sI sE ⊢
            have hW : Wd m7.2.2 := by rw [s22]; exact hW
            have hN : NW m7.2.2 q := by rw [s22]; exact hN
            have hq : va_rf (mR m7 142 3) = .ref q := by rw [show mR m7 = mR m8 from congrArg (fun w : WR => w.1) s22]; exact hq
            have hnm : mI m7 q 10 = nI n8r := by rw [sI q (by omega), tI q (by omega) (by omega) (by omega)]; exact hLQ.1.2.2.2.2.2.2.2.2.2.2.1.trans hn8
            have hvm : ∀ p, p < n8r → mI m7 150 p = (runF (lam m a) (lam m 20) n4r n8r x (-nI 1) 0 DD) 1 p ∧ mI m7 151 p = (runF (lam m a) (lam m 20) n4r n8r x (-nI 1) 0 DD) 2 p ∧ mI m7 152 p = (runF (lam m a) (lam m 20) n4r n8r x (-nI 1) 0 DD) 7 p ∧ mI m7 (q + 12) p = (runF (lam m a) (lam m 20) n4r n8r x (-nI 1) 0 DD) 3 p := fun p hp => by
              have hf := (hFE p (by omega)).1 ⟨hp, Or.inl rfl⟩
              refine ⟨(congrFun (sE 2 (by decide)) p).trans hf.1.2.2.1, (congrFun (sE 3 (by decide)) p).trans hf.1.2.2.2.1, (congrFun (sE 4 (by decide)) p).trans hf.1.2.2.2.2.1, ?_⟩
              rw [sI (q + 12) (by omega), tI (q + 12) (by omega) (by omega) (by omega), hf.2]
              exact (hLQ.2.2.2.2.2.2.2.2.1 p (show p < nv (mI m (a + 1) 8) by rw [hn8, nv_nI (by omega)]; exact hp)).2.2.1
            show Jj sc2 d 0 0 (mth 286) (pg P286 30).1 [some (.ref 142), some (.int x), some (.int y), some (.int (nI 0)), some (.int (nI 0))] [] m7 0 0 Q2
            refine llw (D := (runF (lam m a) (lam m 20) n4r n8r x (-nI 1) 0 DD)) (by omega) hW hN hq h158 (by omega) hnm hvm ?_ (n8r + 1) 0 (Nat.zero_le _) (by omega)
            have hval : taQ ((runF (lam m a) (lam m 20) n4r n8r x (-nI 1) 0 DD) 1) ((runF (lam m a) (lam m 20) n4r n8r x (-nI 1) 0 DD) 2) ((runF (lam m a) (lam m 20) n4r n8r x (-nI 1) 0 DD) 3) ((runF (lam m a) (lam m 20) n4r n8r x (-nI 1) 0 DD) 7) y n8r = taQ (mI m9 (124 + 1)) (mI m9 (124 + 2)) (mI m9 (124 + 3)) (mI m9 (124 + 7)) y 8 := by rw [← ta_8 hFE (by omega), pr 1 (by decide), pr 2 (by decide), pr 3 (by decide), pr 7 (by decide)]
            rw [hval]
            exact h2 _ (Rel_s7 hR (s22.trans t22) (fun r g1 g2 g3 => (sI r (Classical.byContradiction fun z9 => g1 (by unfold scr; omega))).trans (tI r g2 g3 (fun z9 => g1 (by unfold scr; omega)))) (fun _ => (sI 140 (by decide)).trans (tI 140 (by decide) (by decide) (by decide))) (by rw [sI 0 (by decide)]; exact t0) (fun k hk => by rw [sI 0 (by decide)]; exact t0k k hk) (fun k hk => by rw [sI 142 (by decide)]; exact t142 k hk))
          · -- 13 not: ¬ y ≤ nI 3
            refine And.intro ⟨by omega, Nat.le_of_ble_eq_true rfl, Nat.le_refl _, Nat.le_refl _⟩ (And.intro (Wdo_0 hW) ?_)
            refine C176 hW ?_
            refine And.intro ⟨rfl, trivial, Nat.le_refl _, Nat.le_refl _⟩ ?_
            refine h _ _ hW (fun Q2 h2 => ?_)
            refine ent (n := 192) z286 (by decide) rfl (by decide) (Nat.le_of_ble_eq_true rfl) (fun sc2 => ?_)
            refine And.intro (Wdo_142 hW) ?_
            refine And.intro (Wdo_142 hW) (Exists.intro _ (And.intro hq ?_))
            refine And.intro ⟨by omega, Nat.le_of_ble_eq_true rfl, Nat.le_refl _, Nat.le_refl _⟩ ?_
            refine C204 (m := (uI (uI m 0 0 (nI 1)) 142 0 (nI 0))) ?_
            refine And.intro (fun cr10 => False.elim (absurd (⟨Int32.not_lt.mp cz5, le2_3.mpr cz8⟩) (bi_eq0.mp cr10))) (fun cr10 => ?_)
            refine And.intro ⟨by omega, Nat.le_of_ble_eq_true rfl, Nat.le_refl _, Nat.le_refl _⟩ ?_
            refine C204 (m := (uI (uI m 0 0 (nI 1)) 142 0 (nI 0))) ?_
            refine And.intro (fun cr15 => False.elim (absurd (bi_ne0.mp cr15) (fun z9 => absurd z9.2 cz13))) (fun cr15 => ?_)
            refine And.intro ⟨by omega, Nat.le_of_ble_eq_true rfl, Nat.le_refl _, Nat.le_refl _⟩ (And.intro (Wdo_142 hW) ?_)
            refine C200 (m := (uI (uI m 0 0 (nI 1)) 142 0 (nI 0))) hW ?_
            refine And.intro ⟨rfl, trivial, Nat.le_refl _, Nat.le_refl _⟩ ?_
            exact h2 _ (Rel_ans hR (by decide))
