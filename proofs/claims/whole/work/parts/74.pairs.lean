theorem C194 {d : Nat} {m : Mm} {Q : Option Value → Mm → Prop} {a g : Nat} {y : Int32} (hd : 2 ≤ d) (hW : Wd m.2.2) (ha : va_rf (mR m 0 3) = .ref a) (hL : LW m.2.2 a) (hg : g < 6) (hQ0 : y = nI 0 → Q (some (.int (mI m (a + 3) g))) m) (hQ1 : y = nI 1 → Q (some (.int (mI m (20 + 1) g))) m) (hQ2 : y = nI 2 → Q (some (.int (mI m (a + 4) g))) m) (hQ3 : y = nI 3 → Q (some (.int (mI m (a + 5) g))) m) (hQ4 : y = nI 4 → Q (some (.int (mI m (a + 6) g))) m) (hQ5 : y.toInt < 0 ∨ (5 : Int) ≤ y.toInt → Q (some (.int (bi (mI m (a + 3) g = nI 3 ∨ bq (mI m 20 1) (nI g))))) m) : Cc d 0 0 194 [.ref 0, .int (nI g), .int y] m Q := by
  refine ent (n := 100) z194 (by decide) rfl (by decide) (Nat.le_of_ble_eq_true rfl) (fun sc => ?_)
  refine And.intro (fun cz1 => ?_) (And.intro (fun cz1 => ?_) (And.intro (fun cz1 => ?_) (And.intro (fun cz1 => ?_) (And.intro (fun cz1 => ?_) (And.intro (fun cz1 => ?_) (trivial))))))
  · -- case d
    refine And.intro (Wdo_0 hW) (Exists.intro _ (And.intro ha ?_))
    refine And.intro (Wdo_0 hW) (Exists.intro _ (And.intro (Wdr_0_4 hW) ?_))
    refine And.intro ⟨by omega, Nat.le_of_ble_eq_true rfl, Nat.le_refl _, Nat.le_refl _⟩ (And.intro (LWo_0 hL) ?_)
    refine C34 (g := g) (b := 20) (by omega) hL (Wd_S hW) (by omega) ?_
    refine And.intro ⟨by omega, Nat.le_of_ble_eq_true rfl, Nat.le_refl _, Nat.le_refl _⟩ ?_
    refine C180 ?_
    refine And.intro ⟨rfl, trivial, Nat.le_refl _, Nat.le_refl _⟩ ?_
    exact hQ5 cz1
  · -- case 0
    refine And.intro (Wdo_0 hW) (Exists.intro _ (And.intro ha ?_))
    refine And.intro (LWo_0 hL) (Exists.intro _ (And.intro (LWr_0_6 hL) ?_))
    refine And.intro (LWi_3 hL (vi rfl (by omega))) ?_
    rw [nI_clamp (show g < 2 ^ 31 by omega)]
    refine And.intro ⟨rfl, trivial, Nat.le_refl _, Nat.le_refl _⟩ ?_
    exact hQ0 cz1
  · -- case 1
    refine And.intro (Wdo_0 hW) (Exists.intro _ (And.intro (Wdr_0_4 hW) ?_))
    refine And.intro (SWo_0 (Wd_S hW)) (Exists.intro _ (And.intro (SWr_0_2 (Wd_S hW)) ?_))
    refine And.intro (SWi_1 (Wd_S hW) (vi rfl (by omega))) ?_
    rw [nI_clamp (show g < 2 ^ 31 by omega)]
    refine And.intro ⟨rfl, trivial, Nat.le_refl _, Nat.le_refl _⟩ ?_
    exact hQ1 cz1
  · -- case 2
    refine And.intro (Wdo_0 hW) (Exists.intro _ (And.intro ha ?_))
    refine And.intro (LWo_0 hL) (Exists.intro _ (And.intro (LWr_0_7 hL) ?_))
    refine And.intro (LWi_4 hL (vi rfl (by omega))) ?_
    rw [nI_clamp (show g < 2 ^ 31 by omega)]
    refine And.intro ⟨rfl, trivial, Nat.le_refl _, Nat.le_refl _⟩ ?_
    exact hQ2 cz1
  · -- case 3
    refine And.intro (Wdo_0 hW) (Exists.intro _ (And.intro ha ?_))
    refine And.intro (LWo_0 hL) (Exists.intro _ (And.intro (LWr_0_8 hL) ?_))
    refine And.intro (LWi_5 hL (vi rfl (by omega))) ?_
    rw [nI_clamp (show g < 2 ^ 31 by omega)]
    refine And.intro ⟨rfl, trivial, Nat.le_refl _, Nat.le_refl _⟩ ?_
    exact hQ3 cz1
  · -- case 4
    refine And.intro (Wdo_0 hW) (Exists.intro _ (And.intro ha ?_))
    refine And.intro (LWo_0 hL) (Exists.intro _ (And.intro (LWr_0_9 hL) ?_))
    refine And.intro (LWi_6 hL (vi rfl (by omega))) ?_
    rw [nI_clamp (show g < 2 ^ 31 by omega)]
    refine And.intro ⟨rfl, trivial, Nat.le_refl _, Nat.le_refl _⟩ ?_
    exact hQ4 cz1
theorem P_god {d : Nat} {m : Mm} {Q : Option Value → Mm → Prop} {z : Nat} {x y : Int32} (hd : 16 ≤ d) (hR : Rel z m) (h : ∀ (r : Int32) m1, Wd m1.2.2 → (∀ Q2 : Option Value → Mm → Prop, (∀ m2, Rel z m2 → Q2 (some (.int r)) m2) → Cc d 0 0 332 [.ref 142, .int x, .int y] m1 Q2) → Q (some (.int r)) m1) : Cc d 0 0 168 [.ref 0, .int x, .int y] m Q := by
  obtain ⟨hW, hz, hS, a, b, hA, hX⟩ := id hR
  obtain ⟨hL, hLb, hab, ha, hb⟩ := RelA_L hW hA
  obtain ⟨n2r, hn2, bn2, ln2⟩ := RL_n (s := 2) (f := 5) hX.2.2.1 (by decide) (fun _ _ h => h.2.2.2.2.2.1)
  change n2r ≤ 6 at bn2
  obtain ⟨n4r, hn4, bn4, ln4⟩ := RL_n (s := 4) (f := 6) hX.2.2.1 (by decide) (fun _ _ h => h.2.2.2.2.2.2.1)
  change n4r ≤ 6 at bn4
  obtain ⟨n8r, hn8, bn8, ln8⟩ := RL_n (s := 8) (f := 10) hX.2.2.1 (by decide) (fun _ _ h => h.2.2.2.2.2.2.2.2.2.2.1)
  change n8r ≤ 8 at bn8
  obtain ⟨n10r, hn10, bn10, ln10⟩ := RL_n (s := 10) (f := 12) hX.2.2.1 (by decide) (fun _ _ h => h.2.2.2.2.2.2.2.2.2.2.2.2.1)
  change n10r ≤ 4 at bn10
  refine ent (n := 60) z168 (by decide) rfl (by decide) (Nat.le_of_ble_eq_true rfl) (fun sc => ?_)
  refine And.intro ⟨by omega, Nat.le_of_ble_eq_true rfl, Nat.le_refl _, Nat.le_refl _⟩ (And.intro (Wdo_0 hW) ?_)
  refine C181 (by omega) hW ha hL hn4 (by omega) ?_
  refine And.intro (fun cz3 => ?_) (fun cz3 => ?_)
  · -- 3 taken: bi (iR x n4r) = 0
    refine And.intro ⟨by omega, Nat.le_of_ble_eq_true rfl, Nat.le_refl _, Nat.le_refl _⟩ (And.intro (Wdo_0 hW) ?_)
    refine C176 hW ?_
    refine And.intro ⟨rfl, trivial, Nat.le_refl _, Nat.le_refl _⟩ ?_
    refine h _ _ hW (fun Q2 h2 => ?_)
    refine ent (n := 158) z332 (by decide) rfl (by decide) (Nat.le_of_ble_eq_true rfl) (fun sc2 => ?_)
    refine And.intro (Wdo_142 hW) ?_
    refine And.intro ⟨by omega, Nat.le_of_ble_eq_true rfl, Nat.le_refl _, Nat.le_refl _⟩ (And.intro (Wdo_142 hW) ?_)
    refine C247 (m := (uI (uI m 0 0 (nI 1)) 142 0 (nI 0))) (by omega) hW (LN_u (LN_u ln4 (by decide)) (by decide)) (by omega) ?_
    refine And.intro (fun cr6 => ?_) (fun cr6 => False.elim (absurd (bi_ne0.mp cr6) (bi_eq0.mp cz3)))
    refine And.intro ⟨by omega, Nat.le_of_ble_eq_true rfl, Nat.le_refl _, Nat.le_refl _⟩ (And.intro (Wdo_142 hW) ?_)
    refine C200 (m := (uI (uI m 0 0 (nI 1)) 142 0 (nI 0))) hW ?_
    refine And.intro ⟨rfl, trivial, Nat.le_refl _, Nat.le_refl _⟩ ?_
    exact h2 _ (Rel_ans hR (by decide))
  · -- 3 not: ¬ bi (iR x n4r) = 0
    refine And.intro (fun cz5 => ?_) (fun cz5 => ?_)
    · -- 5 taken: y < 0
      refine And.intro ⟨by omega, Nat.le_of_ble_eq_true rfl, Nat.le_refl _, Nat.le_refl _⟩ (And.intro (Wdo_0 hW) ?_)
      refine C176 hW ?_
      refine And.intro ⟨rfl, trivial, Nat.le_refl _, Nat.le_refl _⟩ ?_
      refine h _ _ hW (fun Q2 h2 => ?_)
      refine ent (n := 158) z332 (by decide) rfl (by decide) (Nat.le_of_ble_eq_true rfl) (fun sc2 => ?_)
      refine And.intro (Wdo_142 hW) ?_
      refine And.intro ⟨by omega, Nat.le_of_ble_eq_true rfl, Nat.le_refl _, Nat.le_refl _⟩ (And.intro (Wdo_142 hW) ?_)
      refine C247 (m := (uI (uI m 0 0 (nI 1)) 142 0 (nI 0))) (by omega) hW (LN_u (LN_u ln4 (by decide)) (by decide)) (by omega) ?_
      refine And.intro (fun cr6 => False.elim (absurd (bi_ne0.mp cz3) (bi_eq0.mp cr6))) (fun cr6 => ?_)
      refine And.intro ⟨by omega, Nat.le_of_ble_eq_true rfl, Nat.le_refl _, Nat.le_refl _⟩ ?_
      refine C204 (m := (uI (uI m 0 0 (nI 1)) 142 0 (nI 0))) ?_
      refine And.intro (fun cr11 => False.elim (absurd (bi_ne0.mp cr11) (fun z9 => absurd cz5 (Int32.not_lt.mpr z9.1)))) (fun cr11 => ?_)
      refine And.intro ⟨by omega, Nat.le_of_ble_eq_true rfl, Nat.le_refl _, Nat.le_refl _⟩ (And.intro (Wdo_142 hW) ?_)
      refine C200 (m := (uI (uI m 0 0 (nI 1)) 142 0 (nI 0))) hW ?_
      refine And.intro ⟨rfl, trivial, Nat.le_refl _, Nat.le_refl _⟩ ?_
      exact h2 _ (Rel_ans hR (by decide))
    · -- 5 not: ¬ y < 0
      refine And.intro (fun cz8 => ?_) (fun cz8 => ?_)
      · -- 8 taken: y ≤ nI 5
        obtain ⟨g, hg, rfl⟩ := bi_ne0.mp cz3
        obtain ⟨q, hq1⟩ := RL_1 (s := 4) hX.2.2.1 (by decide) hn4 (show 0 < n4r by omega) (by omega)
        obtain ⟨hq, w, u, ha0, ha1, hq0, hq1w, hw6, hu4, hwu, hgr⟩ := RL_q hq1
        obtain ⟨h158, hqz, hN, h3, ⟨T, hI⟩, hst, hla, hLQ, hSR⟩ := hq1
        have hq6 : mI m q 6 = nI n4r := hLQ.1.2.2.2.2.2.2.1.trans hn4
        have hq5 : mI m q 5 = nI n2r := hLQ.1.2.2.2.2.2.1.trans hn2
        refine And.intro ⟨by omega, Nat.le_of_ble_eq_true rfl, Nat.le_refl _, Nat.le_refl _⟩ (And.intro (Wdo_0 hW) ?_)
        refine C194 (g := g) (by omega) hW ha hL (by omega) ?_ ?_ ?_ ?_ ?_ ?_
        · -- a way behind the call
          intro hy9
          subst hy9
          refine And.intro ⟨by omega, Nat.le_of_ble_eq_true rfl, Nat.le_refl _, Nat.le_refl _⟩ (And.intro (Wdo_0 hW) ?_)
          refine C177 hW ?_
          refine And.intro ⟨rfl, trivial, Nat.le_refl _, Nat.le_refl _⟩ ?_
          refine h _ _ hW (fun Q2 h2 => ?_)
          refine ent (n := 158) z332 (by decide) rfl (by decide) (Nat.le_of_ble_eq_true rfl) (fun sc2 => ?_)
          refine And.intro (Wdo_142 hW) ?_
          refine And.intro ⟨by omega, Nat.le_of_ble_eq_true rfl, Nat.le_refl _, Nat.le_refl _⟩ (And.intro (Wdo_142 hW) ?_)
          refine C247 (m := (uI (uI m 0 0 (nI 0)) 142 0 (nI 0))) (by omega) hW (LN_u (LN_u ln4 (by decide)) (by decide)) (by omega) ?_
          refine And.intro (fun cr6 => False.elim (absurd (bi_ne0.mp cz3) (bi_eq0.mp cr6))) (fun cr6 => ?_)
          refine And.intro ⟨by omega, Nat.le_of_ble_eq_true rfl, Nat.le_refl _, Nat.le_refl _⟩ ?_
          refine C204 (m := (uI (uI m 0 0 (nI 0)) 142 0 (nI 0))) ?_
          refine And.intro (fun cr11 => ?_) (fun cr11 => False.elim (absurd (⟨Int32.not_lt.mp cz5, cz8⟩) (bi_eq0.mp cr11)))
          refine And.intro (fun cr17 => ?_) (And.intro (fun cr17 => ?_) (And.intro (fun cr17 => ?_) (And.intro (fun cr17 => ?_) (And.intro (fun cr17 => ?_) (And.intro (fun cr17 => ?_) (trivial))))))
          · -- case d
            exact absurd cr17 (by decide)
          · -- case 0
            refine And.intro (Wdo_142 hW) (Exists.intro _ (And.intro hq ?_))
            refine And.intro (NWo_0 hN) (Exists.intro _ (And.intro (NWr_0_18 hN) ?_))
            refine And.intro (NWi_2 hN (vi rfl (by omega))) ?_
            rw [nI_clamp (show g < 2 ^ 31 by omega)]
            rw [uI_ne (m := (uI m 0 0 (nI 0))) (a := 142) (b := (q + 2)) (by omega)]
            rw [uI_ne (m := m) (a := 0) (b := (q + 2)) (by omega)]
            refine And.intro ⟨by omega, Nat.le_of_ble_eq_true rfl, Nat.le_refl _, Nat.le_refl _⟩ (And.intro (Wdo_142 hW) ?_)
            refine C202 (m := (uI (uI m 0 0 (nI 0)) 142 0 (nI 0))) hW ?_
            refine And.intro ⟨rfl, trivial, Nat.le_refl _, Nat.le_refl _⟩ ?_
            have v3 := hLQ.2.2.2.1 g (show g < nv (mI m (a + 1) 4) by rw [hn4, nv_nI (by omega)]; exact hg)
            rw [show mI m (q + 2) g = mI m (a + 3) g from v3.1]
            exact h2 _ (Rel_ans hR (by decide))
          · -- case 1
            exact absurd cr17 (by decide)
          · -- case 2
            exact absurd cr17 (by decide)
          · -- case 3
            exact absurd cr17 (by decide)
          · -- case 4
            exact absurd cr17 (by decide)
        · -- a way behind the call
          intro hy9
          subst hy9
          refine And.intro ⟨by omega, Nat.le_of_ble_eq_true rfl, Nat.le_refl _, Nat.le_refl _⟩ (And.intro (Wdo_0 hW) ?_)
          refine C177 hW ?_
          refine And.intro ⟨rfl, trivial, Nat.le_refl _, Nat.le_refl _⟩ ?_
          refine h _ _ hW (fun Q2 h2 => ?_)
          refine ent (n := 158) z332 (by decide) rfl (by decide) (Nat.le_of_ble_eq_true rfl) (fun sc2 => ?_)
          refine And.intro (Wdo_142 hW) ?_
          refine And.intro ⟨by omega, Nat.le_of_ble_eq_true rfl, Nat.le_refl _, Nat.le_refl _⟩ (And.intro (Wdo_142 hW) ?_)
          refine C247 (m := (uI (uI m 0 0 (nI 0)) 142 0 (nI 0))) (by omega) hW (LN_u (LN_u ln4 (by decide)) (by decide)) (by omega) ?_
          refine And.intro (fun cr6 => False.elim (absurd (bi_ne0.mp cz3) (bi_eq0.mp cr6))) (fun cr6 => ?_)
          refine And.intro ⟨by omega, Nat.le_of_ble_eq_true rfl, Nat.le_refl _, Nat.le_refl _⟩ ?_
          refine C204 (m := (uI (uI m 0 0 (nI 0)) 142 0 (nI 0))) ?_
          refine And.intro (fun cr11 => ?_) (fun cr11 => False.elim (absurd (⟨Int32.not_lt.mp cz5, cz8⟩) (bi_eq0.mp cr11)))
          refine And.intro (fun cr17 => ?_) (And.intro (fun cr17 => ?_) (And.intro (fun cr17 => ?_) (And.intro (fun cr17 => ?_) (And.intro (fun cr17 => ?_) (And.intro (fun cr17 => ?_) (trivial))))))
          · -- case d
            exact absurd cr17 (by decide)
          · -- case 0
            exact absurd cr17 (by decide)
          · -- case 1
            refine And.intro (Wdo_142 hW) (Exists.intro _ (And.intro (Wdr_142_18 hW) ?_))
            have er32 : nI 1 + nI g = nI (1 + g) := by simp only [nI_add, pk_mul]
            refine And.intro (Wdi_145 hW (vi er32 (by omega))) ?_
            rw [vc er32 (by omega)]
            rw [uI_ne (m := (uI m 0 0 (nI 0))) (a := 142) (b := 145) (by omega)]
            rw [uI_ne (m := m) (a := 0) (b := 145) (by omega)]
            refine And.intro ⟨by omega, Nat.le_of_ble_eq_true rfl, Nat.le_refl _, Nat.le_refl _⟩ (And.intro (Wdo_142 hW) ?_)
            refine C202 (m := (uI (uI m 0 0 (nI 0)) 142 0 (nI 0))) hW ?_
            refine And.intro ⟨rfl, trivial, Nat.le_refl _, Nat.le_refl _⟩ ?_
            rw [show mI m 145 (1 + g) = mI m (20 + 1) g from hX.2.1.2.1 g (by omega)]
            exact h2 _ (Rel_ans hR (by decide))
          · -- case 2
            exact absurd cr17 (by decide)
          · -- case 3
            exact absurd cr17 (by decide)
          · -- case 4
            exact absurd cr17 (by decide)
        · -- a way behind the call
          intro hy9
          subst hy9
          refine And.intro ⟨by omega, Nat.le_of_ble_eq_true rfl, Nat.le_refl _, Nat.le_refl _⟩ (And.intro (Wdo_0 hW) ?_)
          refine C177 hW ?_
          refine And.intro ⟨rfl, trivial, Nat.le_refl _, Nat.le_refl _⟩ ?_
          refine h _ _ hW (fun Q2 h2 => ?_)
          refine ent (n := 158) z332 (by decide) rfl (by decide) (Nat.le_of_ble_eq_true rfl) (fun sc2 => ?_)
          refine And.intro (Wdo_142 hW) ?_
          refine And.intro ⟨by omega, Nat.le_of_ble_eq_true rfl, Nat.le_refl _, Nat.le_refl _⟩ (And.intro (Wdo_142 hW) ?_)
          refine C247 (m := (uI (uI m 0 0 (nI 0)) 142 0 (nI 0))) (by omega) hW (LN_u (LN_u ln4 (by decide)) (by decide)) (by omega) ?_
          refine And.intro (fun cr6 => False.elim (absurd (bi_ne0.mp cz3) (bi_eq0.mp cr6))) (fun cr6 => ?_)
          refine And.intro ⟨by omega, Nat.le_of_ble_eq_true rfl, Nat.le_refl _, Nat.le_refl _⟩ ?_
          refine C204 (m := (uI (uI m 0 0 (nI 0)) 142 0 (nI 0))) ?_
          refine And.intro (fun cr11 => ?_) (fun cr11 => False.elim (absurd (⟨Int32.not_lt.mp cz5, cz8⟩) (bi_eq0.mp cr11)))
          refine And.intro (fun cr17 => ?_) (And.intro (fun cr17 => ?_) (And.intro (fun cr17 => ?_) (And.intro (fun cr17 => ?_) (And.intro (fun cr17 => ?_) (And.intro (fun cr17 => ?_) (trivial))))))
          · -- case d
            exact absurd cr17 (by decide)
          · -- case 0
            exact absurd cr17 (by decide)
          · -- case 1
            exact absurd cr17 (by decide)
          · -- case 2
            refine And.intro (Wdo_142 hW) (Exists.intro _ (And.intro hq ?_))
            refine And.intro (NWo_0 hN) (Exists.intro _ (And.intro (NWr_0_20 hN) ?_))
            refine And.intro (NWi_4 hN (vi rfl (by omega))) ?_
            rw [nI_clamp (show g < 2 ^ 31 by omega)]
            rw [uI_ne (m := (uI m 0 0 (nI 0))) (a := 142) (b := (q + 4)) (by omega)]
            rw [uI_ne (m := m) (a := 0) (b := (q + 4)) (by omega)]
            refine And.intro ⟨by omega, Nat.le_of_ble_eq_true rfl, Nat.le_refl _, Nat.le_refl _⟩ (And.intro (Wdo_142 hW) ?_)
            refine C202 (m := (uI (uI m 0 0 (nI 0)) 142 0 (nI 0))) hW ?_
            refine And.intro ⟨rfl, trivial, Nat.le_refl _, Nat.le_refl _⟩ ?_
            have v3 := hLQ.2.2.2.1 g (show g < nv (mI m (a + 1) 4) by rw [hn4, nv_nI (by omega)]; exact hg)
            rw [show mI m (q + 4) g = mI m (a + 4) g from v3.2.1]
            exact h2 _ (Rel_ans hR (by decide))
          · -- case 3
            exact absurd cr17 (by decide)
          · -- case 4
            exact absurd cr17 (by decide)
        · -- a way behind the call
          intro hy9
          subst hy9
          refine And.intro ⟨by omega, Nat.le_of_ble_eq_true rfl, Nat.le_refl _, Nat.le_refl _⟩ (And.intro (Wdo_0 hW) ?_)
          refine C177 hW ?_
          refine And.intro ⟨rfl, trivial, Nat.le_refl _, Nat.le_refl _⟩ ?_
          refine h _ _ hW (fun Q2 h2 => ?_)
          refine ent (n := 158) z332 (by decide) rfl (by decide) (Nat.le_of_ble_eq_true rfl) (fun sc2 => ?_)
          refine And.intro (Wdo_142 hW) ?_
          refine And.intro ⟨by omega, Nat.le_of_ble_eq_true rfl, Nat.le_refl _, Nat.le_refl _⟩ (And.intro (Wdo_142 hW) ?_)
          refine C247 (m := (uI (uI m 0 0 (nI 0)) 142 0 (nI 0))) (by omega) hW (LN_u (LN_u ln4 (by decide)) (by decide)) (by omega) ?_
          refine And.intro (fun cr6 => False.elim (absurd (bi_ne0.mp cz3) (bi_eq0.mp cr6))) (fun cr6 => ?_)
          refine And.intro ⟨by omega, Nat.le_of_ble_eq_true rfl, Nat.le_refl _, Nat.le_refl _⟩ ?_
          refine C204 (m := (uI (uI m 0 0 (nI 0)) 142 0 (nI 0))) ?_
          refine And.intro (fun cr11 => ?_) (fun cr11 => False.elim (absurd (⟨Int32.not_lt.mp cz5, cz8⟩) (bi_eq0.mp cr11)))
          refine And.intro (fun cr17 => ?_) (And.intro (fun cr17 => ?_) (And.intro (fun cr17 => ?_) (And.intro (fun cr17 => ?_) (And.intro (fun cr17 => ?_) (And.intro (fun cr17 => ?_) (trivial))))))
          · -- case d
            exact absurd cr17 (by decide)
          · -- case 0
            exact absurd cr17 (by decide)
          · -- case 1
            exact absurd cr17 (by decide)
          · -- case 2
            exact absurd cr17 (by decide)
          · -- case 3
            refine And.intro (Wdo_142 hW) (Exists.intro _ (And.intro hq ?_))
            refine And.intro (NWo_0 hN) (Exists.intro _ (And.intro (NWr_0_21 hN) ?_))
            refine And.intro (NWi_5 hN (vi rfl (by omega))) ?_
            rw [nI_clamp (show g < 2 ^ 31 by omega)]
            rw [uI_ne (m := (uI m 0 0 (nI 0))) (a := 142) (b := (q + 5)) (by omega)]
            rw [uI_ne (m := m) (a := 0) (b := (q + 5)) (by omega)]
            refine And.intro ⟨by omega, Nat.le_of_ble_eq_true rfl, Nat.le_refl _, Nat.le_refl _⟩ (And.intro (Wdo_142 hW) ?_)
            refine C202 (m := (uI (uI m 0 0 (nI 0)) 142 0 (nI 0))) hW ?_
            refine And.intro ⟨rfl, trivial, Nat.le_refl _, Nat.le_refl _⟩ ?_
            have v3 := hLQ.2.2.2.1 g (show g < nv (mI m (a + 1) 4) by rw [hn4, nv_nI (by omega)]; exact hg)
            rw [show mI m (q + 5) g = mI m (a + 5) g from v3.2.2.1]
            exact h2 _ (Rel_ans hR (by decide))
          · -- case 4
            exact absurd cr17 (by decide)
        · -- a way behind the call
          intro hy9
          subst hy9
          refine And.intro ⟨by omega, Nat.le_of_ble_eq_true rfl, Nat.le_refl _, Nat.le_refl _⟩ (And.intro (Wdo_0 hW) ?_)
          refine C177 hW ?_
          refine And.intro ⟨rfl, trivial, Nat.le_refl _, Nat.le_refl _⟩ ?_
          refine h _ _ hW (fun Q2 h2 => ?_)
          refine ent (n := 158) z332 (by decide) rfl (by decide) (Nat.le_of_ble_eq_true rfl) (fun sc2 => ?_)
          refine And.intro (Wdo_142 hW) ?_
          refine And.intro ⟨by omega, Nat.le_of_ble_eq_true rfl, Nat.le_refl _, Nat.le_refl _⟩ (And.intro (Wdo_142 hW) ?_)
          refine C247 (m := (uI (uI m 0 0 (nI 0)) 142 0 (nI 0))) (by omega) hW (LN_u (LN_u ln4 (by decide)) (by decide)) (by omega) ?_
          refine And.intro (fun cr6 => False.elim (absurd (bi_ne0.mp cz3) (bi_eq0.mp cr6))) (fun cr6 => ?_)
          refine And.intro ⟨by omega, Nat.le_of_ble_eq_true rfl, Nat.le_refl _, Nat.le_refl _⟩ ?_
          refine C204 (m := (uI (uI m 0 0 (nI 0)) 142 0 (nI 0))) ?_
          refine And.intro (fun cr11 => ?_) (fun cr11 => False.elim (absurd (⟨Int32.not_lt.mp cz5, cz8⟩) (bi_eq0.mp cr11)))
          refine And.intro (fun cr17 => ?_) (And.intro (fun cr17 => ?_) (And.intro (fun cr17 => ?_) (And.intro (fun cr17 => ?_) (And.intro (fun cr17 => ?_) (And.intro (fun cr17 => ?_) (trivial))))))
          · -- case d
            exact absurd cr17 (by decide)
          · -- case 0
            exact absurd cr17 (by decide)
          · -- case 1
            exact absurd cr17 (by decide)
          · -- case 2
            exact absurd cr17 (by decide)
          · -- case 3
            exact absurd cr17 (by decide)
          · -- case 4
            refine And.intro (Wdo_142 hW) (Exists.intro _ (And.intro hq ?_))
            refine And.intro (NWo_0 hN) (Exists.intro _ (And.intro (NWr_0_22 hN) ?_))
            refine And.intro (NWi_6 hN (vi rfl (by omega))) ?_
            rw [nI_clamp (show g < 2 ^ 31 by omega)]
            rw [uI_ne (m := (uI m 0 0 (nI 0))) (a := 142) (b := (q + 6)) (by omega)]
            rw [uI_ne (m := m) (a := 0) (b := (q + 6)) (by omega)]
            refine And.intro ⟨by omega, Nat.le_of_ble_eq_true rfl, Nat.le_refl _, Nat.le_refl _⟩ (And.intro (Wdo_142 hW) ?_)
            refine C202 (m := (uI (uI m 0 0 (nI 0)) 142 0 (nI 0))) hW ?_
            refine And.intro ⟨rfl, trivial, Nat.le_refl _, Nat.le_refl _⟩ ?_
            have v3 := hLQ.2.2.2.1 g (show g < nv (mI m (a + 1) 4) by rw [hn4, nv_nI (by omega)]; exact hg)
            rw [show mI m (q + 6) g = mI m (a + 6) g from v3.2.2.2]
            exact h2 _ (Rel_ans hR (by decide))
        · -- a way behind the call
          intro hy9
          refine And.intro ⟨by omega, Nat.le_of_ble_eq_true rfl, Nat.le_refl _, Nat.le_refl _⟩ (And.intro (Wdo_0 hW) ?_)
          refine C177 hW ?_
          refine And.intro ⟨rfl, trivial, Nat.le_refl _, Nat.le_refl _⟩ ?_
          refine h _ _ hW (fun Q2 h2 => ?_)
          refine ent (n := 158) z332 (by decide) rfl (by decide) (Nat.le_of_ble_eq_true rfl) (fun sc2 => ?_)
          refine And.intro (Wdo_142 hW) ?_
          refine And.intro ⟨by omega, Nat.le_of_ble_eq_true rfl, Nat.le_refl _, Nat.le_refl _⟩ (And.intro (Wdo_142 hW) ?_)
          refine C247 (m := (uI (uI m 0 0 (nI 0)) 142 0 (nI 0))) (by omega) hW (LN_u (LN_u ln4 (by decide)) (by decide)) (by omega) ?_
          refine And.intro (fun cr6 => False.elim (absurd (bi_ne0.mp cz3) (bi_eq0.mp cr6))) (fun cr6 => ?_)
          refine And.intro ⟨by omega, Nat.le_of_ble_eq_true rfl, Nat.le_refl _, Nat.le_refl _⟩ ?_
          refine C204 (m := (uI (uI m 0 0 (nI 0)) 142 0 (nI 0))) ?_
          refine And.intro (fun cr11 => ?_) (fun cr11 => False.elim (absurd (⟨Int32.not_lt.mp cz5, cz8⟩) (bi_eq0.mp cr11)))
          refine And.intro (fun cr17 => ?_) (And.intro (fun cr17 => ?_) (And.intro (fun cr17 => ?_) (And.intro (fun cr17 => ?_) (And.intro (fun cr17 => ?_) (And.intro (fun cr17 => ?_) (trivial))))))
          · -- case d
            refine And.intro ⟨by omega, Nat.le_of_ble_eq_true rfl, Nat.le_refl _, Nat.le_refl _⟩ (And.intro (Wdo_142 hW) ?_)
            refine C253 (m := (uI (uI m 0 0 (nI 0)) 142 0 (nI 0))) (g := g) hW hN hq (by omega) (by omega) ?_
            rw [uI_ne (m := (uI m 0 0 (nI 0))) (a := 142) (b := (q + 2)) (by omega)]
            rw [uI_ne (m := (uI m 0 0 (nI 0))) (a := 142) (b := 145) (by omega)]
            rw [uI_ne (m := m) (a := 0) (b := (q + 2)) (by omega)]
            rw [uI_ne (m := m) (a := 0) (b := 145) (by omega)]
            refine And.intro (fun cr63 => ?_) (fun cr63 => ?_)
            · -- 63 taken: bi (mI m (q + 2) g = nI 3 ∨ bq (mI m 145 0) (nI g)) = 0
              refine And.intro ⟨by omega, Nat.le_of_ble_eq_true rfl, Nat.le_refl _, Nat.le_refl _⟩ (And.intro (Wdo_142 hW) ?_)
              refine C202 (m := (uI (uI m 0 0 (nI 0)) 142 0 (nI 0))) hW ?_
              refine And.intro ⟨rfl, trivial, Nat.le_refl _, Nat.le_refl _⟩ ?_
              have v3 := hLQ.2.2.2.1 g (show g < nv (mI m (a + 1) 4) by rw [hn4, nv_nI (by omega)]; exact hg)
              rw [show mI m (q + 2) g = mI m (a + 3) g from v3.1, show mI m 145 0 = mI m 20 1 from hX.2.1.1] at cr63
              rw [bi_f (bi_eq0.mp cr63)] at h2
              exact h2 _ (Rel_ans hR (by decide))
            · -- 63 not: ¬ bi (mI m (q + 2) g = nI 3 ∨ bq (mI m 145 0) (nI g)) = 0
              refine And.intro ⟨by omega, Nat.le_of_ble_eq_true rfl, Nat.le_refl _, Nat.le_refl _⟩ (And.intro (Wdo_142 hW) ?_)
              refine C202 (m := (uI (uI m 0 0 (nI 0)) 142 0 (nI 0))) hW ?_
              refine And.intro ⟨rfl, trivial, Nat.le_refl _, Nat.le_refl _⟩ ?_
              have v3 := hLQ.2.2.2.1 g (show g < nv (mI m (a + 1) 4) by rw [hn4, nv_nI (by omega)]; exact hg)
              rw [show mI m (q + 2) g = mI m (a + 3) g from v3.1, show mI m 145 0 = mI m 20 1 from hX.2.1.1] at cr63
              rw [bi_t (bi_ne0.mp cr63)] at h2
              exact h2 _ (Rel_ans hR (by decide))
          · -- case 0
            rw [cr17] at hy9
            exact absurd hy9 (by decide)
          · -- case 1
            rw [cr17] at hy9
            exact absurd hy9 (by decide)
          · -- case 2
            rw [cr17] at hy9
            exact absurd hy9 (by decide)
          · -- case 3
            rw [cr17] at hy9
            exact absurd hy9 (by decide)
          · -- case 4
            rw [cr17] at hy9
            exact absurd hy9 (by decide)
      · -- 8 not: ¬ y ≤ nI 5
        refine And.intro ⟨by omega, Nat.le_of_ble_eq_true rfl, Nat.le_refl _, Nat.le_refl _⟩ (And.intro (Wdo_0 hW) ?_)
        refine C176 hW ?_
        refine And.intro ⟨rfl, trivial, Nat.le_refl _, Nat.le_refl _⟩ ?_
        refine h _ _ hW (fun Q2 h2 => ?_)
        refine ent (n := 158) z332 (by decide) rfl (by decide) (Nat.le_of_ble_eq_true rfl) (fun sc2 => ?_)
        refine And.intro (Wdo_142 hW) ?_
        refine And.intro ⟨by omega, Nat.le_of_ble_eq_true rfl, Nat.le_refl _, Nat.le_refl _⟩ (And.intro (Wdo_142 hW) ?_)
        refine C247 (m := (uI (uI m 0 0 (nI 1)) 142 0 (nI 0))) (by omega) hW (LN_u (LN_u ln4 (by decide)) (by decide)) (by omega) ?_
        refine And.intro (fun cr6 => False.elim (absurd (bi_ne0.mp cz3) (bi_eq0.mp cr6))) (fun cr6 => ?_)
        refine And.intro ⟨by omega, Nat.le_of_ble_eq_true rfl, Nat.le_refl _, Nat.le_refl _⟩ ?_
        refine C204 (m := (uI (uI m 0 0 (nI 1)) 142 0 (nI 0))) ?_
        refine And.intro (fun cr11 => False.elim (absurd (bi_ne0.mp cr11) (fun z9 => absurd z9.2 cz8))) (fun cr11 => ?_)
        refine And.intro ⟨by omega, Nat.le_of_ble_eq_true rfl, Nat.le_refl _, Nat.le_refl _⟩ (And.intro (Wdo_142 hW) ?_)
        refine C200 (m := (uI (uI m 0 0 (nI 1)) 142 0 (nI 0))) hW ?_
        refine And.intro ⟨rfl, trivial, Nat.le_refl _, Nat.le_refl _⟩ ?_
        exact h2 _ (Rel_ans hR (by decide))
theorem le_of_lt7 {y : Int32} (h : y < nI 7) : y ≤ nI 6 := by
  have h7 : (nI 7).toInt = 7 := by decide
  have h6 : (nI 6).toInt = 6 := by decide
  rw [Int32.lt_iff_toInt_lt] at h
  rw [Int32.le_iff_toInt_le]
  omega
theorem lt7_of_le {y : Int32} (h : y ≤ nI 6) : y < nI 7 := by
  have h7 : (nI 7).toInt = 7 := by decide
  have h6 : (nI 6).toInt = 6 := by decide
  rw [Int32.le_iff_toInt_le] at h
  rw [Int32.lt_iff_toInt_lt]
  omega
theorem P_prayer {d : Nat} {m : Mm} {Q : Option Value → Mm → Prop} {z : Nat} {x y : Int32} (hd : 16 ≤ d) (hR : Rel z m) (h : ∀ (r : Int32) m1, Wd m1.2.2 → (∀ Q2 : Option Value → Mm → Prop, (∀ m2, Rel z m2 → Q2 (some (.int r)) m2) → Cc d 0 0 335 [.ref 142, .int x, .int y] m1 Q2) → Q (some (.int r)) m1) : Cc d 0 0 171 [.ref 0, .int x, .int y] m Q := by
  obtain ⟨hW, hz, hS, a, b, hA, hX⟩ := id hR
  obtain ⟨hL, hLb, hab, ha, hb⟩ := RelA_L hW hA
  obtain ⟨n2r, hn2, bn2, ln2⟩ := RL_n (s := 2) (f := 5) hX.2.2.1 (by decide) (fun _ _ h => h.2.2.2.2.2.1)
  change n2r ≤ 6 at bn2
  obtain ⟨n4r, hn4, bn4, ln4⟩ := RL_n (s := 4) (f := 6) hX.2.2.1 (by decide) (fun _ _ h => h.2.2.2.2.2.2.1)
  change n4r ≤ 6 at bn4
  obtain ⟨n8r, hn8, bn8, ln8⟩ := RL_n (s := 8) (f := 10) hX.2.2.1 (by decide) (fun _ _ h => h.2.2.2.2.2.2.2.2.2.2.1)
  change n8r ≤ 8 at bn8
  obtain ⟨n10r, hn10, bn10, ln10⟩ := RL_n (s := 10) (f := 12) hX.2.2.1 (by decide) (fun _ _ h => h.2.2.2.2.2.2.2.2.2.2.2.2.1)
  change n10r ≤ 4 at bn10
  refine ent (n := 62) z171 (by decide) rfl (by decide) (Nat.le_of_ble_eq_true rfl) (fun sc => ?_)
  refine And.intro ⟨by omega, Nat.le_of_ble_eq_true rfl, Nat.le_refl _, Nat.le_refl _⟩ (And.intro (Wdo_0 hW) ?_)
  refine C185 (by omega) hW ha hL hn8 (by omega) ?_
  refine And.intro (fun cz3 => ?_) (fun cz3 => ?_)
  · -- 3 taken: bi (iR x n8r) = 0
    refine And.intro ⟨by omega, Nat.le_of_ble_eq_true rfl, Nat.le_refl _, Nat.le_refl _⟩ (And.intro (Wdo_0 hW) ?_)
    refine C176 hW ?_
    refine And.intro ⟨rfl, trivial, Nat.le_refl _, Nat.le_refl _⟩ ?_
    refine h _ _ hW (fun Q2 h2 => ?_)
    refine ent (n := 168) z335 (by decide) rfl (by decide) (Nat.le_of_ble_eq_true rfl) (fun sc2 => ?_)
    refine And.intro (Wdo_142 hW) ?_
    refine And.intro ⟨by omega, Nat.le_of_ble_eq_true rfl, Nat.le_refl _, Nat.le_refl _⟩ (And.intro (Wdo_142 hW) ?_)
    refine C249 (m := (uI (uI m 0 0 (nI 1)) 142 0 (nI 0))) (by omega) hW (LN_u (LN_u ln8 (by decide)) (by decide)) (by omega) ?_
    refine And.intro (fun cr6 => ?_) (fun cr6 => False.elim (absurd (bi_ne0.mp cr6) (bi_eq0.mp cz3)))
    refine And.intro ⟨by omega, Nat.le_of_ble_eq_true rfl, Nat.le_refl _, Nat.le_refl _⟩ (And.intro (Wdo_142 hW) ?_)
    refine C200 (m := (uI (uI m 0 0 (nI 1)) 142 0 (nI 0))) hW ?_
    refine And.intro ⟨rfl, trivial, Nat.le_refl _, Nat.le_refl _⟩ ?_
    exact h2 _ (Rel_ans hR (by decide))
  · -- 3 not: ¬ bi (iR x n8r) = 0
    refine And.intro (fun cz5 => ?_) (fun cz5 => ?_)
    · -- 5 taken: y < 0
      refine And.intro ⟨by omega, Nat.le_of_ble_eq_true rfl, Nat.le_refl _, Nat.le_refl _⟩ (And.intro (Wdo_0 hW) ?_)
      refine C176 hW ?_
      refine And.intro ⟨rfl, trivial, Nat.le_refl _, Nat.le_refl _⟩ ?_
      refine h _ _ hW (fun Q2 h2 => ?_)
      refine ent (n := 168) z335 (by decide) rfl (by decide) (Nat.le_of_ble_eq_true rfl) (fun sc2 => ?_)
      refine And.intro (Wdo_142 hW) ?_
      refine And.intro ⟨by omega, Nat.le_of_ble_eq_true rfl, Nat.le_refl _, Nat.le_refl _⟩ (And.intro (Wdo_142 hW) ?_)
      refine C249 (m := (uI (uI m 0 0 (nI 1)) 142 0 (nI 0))) (by omega) hW (LN_u (LN_u ln8 (by decide)) (by decide)) (by omega) ?_
      refine And.intro (fun cr6 => False.elim (absurd (bi_ne0.mp cz3) (bi_eq0.mp cr6))) (fun cr6 => ?_)
      refine And.intro ⟨by omega, Nat.le_of_ble_eq_true rfl, Nat.le_refl _, Nat.le_refl _⟩ ?_
      refine C204 (m := (uI (uI m 0 0 (nI 1)) 142 0 (nI 0))) ?_
      refine And.intro (fun cr11 => False.elim (absurd (bi_ne0.mp cr11) (fun z9 => absurd cz5 (Int32.not_lt.mpr z9.1)))) (fun cr11 => ?_)
      refine And.intro ⟨by omega, Nat.le_of_ble_eq_true rfl, Nat.le_refl _, Nat.le_refl _⟩ (And.intro (Wdo_142 hW) ?_)
      refine C200 (m := (uI (uI m 0 0 (nI 1)) 142 0 (nI 0))) hW ?_
      refine And.intro ⟨rfl, trivial, Nat.le_refl _, Nat.le_refl _⟩ ?_
      exact h2 _ (Rel_ans hR (by decide))
    · -- 5 not: ¬ y < 0
      refine And.intro (fun cz8 => ?_) (fun cz8 => ?_)
      · -- 8 taken: y < nI 7
        obtain ⟨p, hp, rfl⟩ := bi_ne0.mp cz3
        obtain ⟨q, hq1⟩ := RL_1 (s := 8) hX.2.2.1 (by decide) hn8 (show 0 < n8r by omega) (by omega)
        obtain ⟨hq, w, u, ha0, ha1, hq0, hq1w, hw6, hu4, hwu, hgr⟩ := RL_q hq1
        obtain ⟨h158, hqz, hN, h3, ⟨T, hI⟩, hst, hla, hLQ, hSR⟩ := hq1
        have hq6 : mI m q 6 = nI n4r := hLQ.1.2.2.2.2.2.2.1.trans hn4
        have hq5 : mI m q 5 = nI n2r := hLQ.1.2.2.2.2.2.1.trans hn2
        obtain ⟨⟨w9, hw9, rfl⟩, -⟩ := iR_of (a := 0) (b := 6) (by decide) (by decide) (Int32.not_lt.mp cz5) (le_of_lt7 cz8)
        refine And.intro (Wdo_0 hW) (Exists.intro _ (And.intro ha ?_))
        refine And.intro ⟨by omega, Nat.le_of_ble_eq_true rfl, Nat.le_refl _, Nat.le_refl _⟩ (And.intro (LWo_0 hL) ?_)
        refine C27 (p := p) (w := w9) hL (by omega) (by omega) ?_
        refine And.intro ⟨by omega, Nat.le_of_ble_eq_true rfl, Nat.le_refl _, Nat.le_refl _⟩ (And.intro (Wdo_0 hW) ?_)
        refine C177 hW ?_
        refine And.intro ⟨rfl, trivial, Nat.le_refl _, Nat.le_refl _⟩ ?_
        refine h _ _ hW (fun Q2 h2 => ?_)
        refine ent (n := 168) z335 (by decide) rfl (by decide) (Nat.le_of_ble_eq_true rfl) (fun sc2 => ?_)
        refine And.intro (Wdo_142 hW) ?_
        refine And.intro ⟨by omega, Nat.le_of_ble_eq_true rfl, Nat.le_refl _, Nat.le_refl _⟩ (And.intro (Wdo_142 hW) ?_)
        refine C249 (m := (uI (uI m 0 0 (nI 0)) 142 0 (nI 0))) (by omega) hW (LN_u (LN_u ln8 (by decide)) (by decide)) (by omega) ?_
        refine And.intro (fun cr6 => False.elim (absurd (bi_ne0.mp cz3) (bi_eq0.mp cr6))) (fun cr6 => ?_)
        refine And.intro ⟨by omega, Nat.le_of_ble_eq_true rfl, Nat.le_refl _, Nat.le_refl _⟩ ?_
        refine C204 (m := (uI (uI m 0 0 (nI 0)) 142 0 (nI 0))) ?_
        refine And.intro (fun cr11 => ?_) (fun cr11 => False.elim (absurd (⟨Int32.not_lt.mp cz5, le_of_lt7 cz8⟩) (bi_eq0.mp cr11)))
        refine And.intro (fun cr17 => ?_) (And.intro (fun cr17 => ?_) (And.intro (fun cr17 => ?_) (And.intro (fun cr17 => ?_) (And.intro (fun cr17 => ?_) (And.intro (fun cr17 => ?_) (And.intro (fun cr17 => ?_) (trivial)))))))
        · -- case d
          have e9q : w9 = 6 := by rw [nI_toInt (by omega)] at cr17; have : (6 : Int) ≤ (w9 : Int) := cr17.elim (fun z => absurd z (by omega)) id; omega
          subst e9q
          refine And.intro (Wdo_142 hW) (Exists.intro _ (And.intro hq ?_))
          refine And.intro (NWo_0 hN) (Exists.intro _ (And.intro (NWr_0_32 hN) ?_))
          refine And.intro (NWi_16 hN (vi rfl (by omega))) ?_
          rw [nI_clamp (show p < 2 ^ 31 by omega)]
          rw [uI_ne (m := (uI m 0 0 (nI 0))) (a := 142) (b := (q + 16)) (by omega)]
          rw [uI_ne (m := m) (a := 0) (b := (q + 16)) (by omega)]
          refine And.intro ⟨by omega, Nat.le_of_ble_eq_true rfl, Nat.le_refl _, Nat.le_refl _⟩ (And.intro (Wdo_142 hW) ?_)
          refine C202 (m := (uI (uI m 0 0 (nI 0)) 142 0 (nI 0))) hW ?_
          refine And.intro ⟨rfl, trivial, Nat.le_refl _, Nat.le_refl _⟩ ?_
          have v8 := hLQ.2.2.2.2.2.2.2.2.1 p (show p < nv (mI m (a + 1) 8) by rw [hn8, nv_nI (by omega)]; exact hp)
          rw [show mI m (q + 16) p = mI m (a + 9) (p * 7 + 6) from v8.2.2.2.2.2.2]
          exact h2 _ (Rel_ans hR (by decide))
        · -- case 0
          have e9q : w9 = 0 := (nI_eq (by omega) (by decide)).mp cr17
          subst e9q
          refine And.intro (Wdo_142 hW) (Exists.intro _ (And.intro hq ?_))
          refine And.intro (NWo_0 hN) (Exists.intro _ (And.intro (NWr_0_26 hN) ?_))
          refine And.intro (NWi_10 hN (vi rfl (by omega))) ?_
          rw [nI_clamp (show p < 2 ^ 31 by omega)]
          rw [uI_ne (m := (uI m 0 0 (nI 0))) (a := 142) (b := (q + 10)) (by omega)]
          rw [uI_ne (m := m) (a := 0) (b := (q + 10)) (by omega)]
          refine And.intro ⟨by omega, Nat.le_of_ble_eq_true rfl, Nat.le_refl _, Nat.le_refl _⟩ (And.intro (Wdo_142 hW) ?_)
          refine C202 (m := (uI (uI m 0 0 (nI 0)) 142 0 (nI 0))) hW ?_
          refine And.intro ⟨rfl, trivial, Nat.le_refl _, Nat.le_refl _⟩ ?_
          have v8 := hLQ.2.2.2.2.2.2.2.2.1 p (show p < nv (mI m (a + 1) 8) by rw [hn8, nv_nI (by omega)]; exact hp)
          rw [show mI m (q + 10) p = mI m (a + 9) (p * 7 + 0) from v8.1]
          exact h2 _ (Rel_ans hR (by decide))
        · -- case 1
          have e9q : w9 = 1 := (nI_eq (by omega) (by decide)).mp cr17
          subst e9q
          refine And.intro (Wdo_142 hW) (Exists.intro _ (And.intro hq ?_))
          refine And.intro (NWo_0 hN) (Exists.intro _ (And.intro (NWr_0_27 hN) ?_))
          refine And.intro (NWi_11 hN (vi rfl (by omega))) ?_
          rw [nI_clamp (show p < 2 ^ 31 by omega)]
          rw [uI_ne (m := (uI m 0 0 (nI 0))) (a := 142) (b := (q + 11)) (by omega)]
          rw [uI_ne (m := m) (a := 0) (b := (q + 11)) (by omega)]
          refine And.intro ⟨by omega, Nat.le_of_ble_eq_true rfl, Nat.le_refl _, Nat.le_refl _⟩ (And.intro (Wdo_142 hW) ?_)
          refine C202 (m := (uI (uI m 0 0 (nI 0)) 142 0 (nI 0))) hW ?_
          refine And.intro ⟨rfl, trivial, Nat.le_refl _, Nat.le_refl _⟩ ?_
          have v8 := hLQ.2.2.2.2.2.2.2.2.1 p (show p < nv (mI m (a + 1) 8) by rw [hn8, nv_nI (by omega)]; exact hp)
          rw [show mI m (q + 11) p = mI m (a + 9) (p * 7 + 1) from v8.2.1]
          exact h2 _ (Rel_ans hR (by decide))
        · -- case 2
          have e9q : w9 = 2 := (nI_eq (by omega) (by decide)).mp cr17
          subst e9q
          refine And.intro (Wdo_142 hW) (Exists.intro _ (And.intro hq ?_))
          refine And.intro (NWo_0 hN) (Exists.intro _ (And.intro (NWr_0_28 hN) ?_))
          refine And.intro (NWi_12 hN (vi rfl (by omega))) ?_
          rw [nI_clamp (show p < 2 ^ 31 by omega)]
          rw [uI_ne (m := (uI m 0 0 (nI 0))) (a := 142) (b := (q + 12)) (by omega)]
          rw [uI_ne (m := m) (a := 0) (b := (q + 12)) (by omega)]
          refine And.intro ⟨by omega, Nat.le_of_ble_eq_true rfl, Nat.le_refl _, Nat.le_refl _⟩ (And.intro (Wdo_142 hW) ?_)
          refine C202 (m := (uI (uI m 0 0 (nI 0)) 142 0 (nI 0))) hW ?_
          refine And.intro ⟨rfl, trivial, Nat.le_refl _, Nat.le_refl _⟩ ?_
          have v8 := hLQ.2.2.2.2.2.2.2.2.1 p (show p < nv (mI m (a + 1) 8) by rw [hn8, nv_nI (by omega)]; exact hp)
          rw [show mI m (q + 12) p = mI m (a + 9) (p * 7 + 2) from v8.2.2.1]
          exact h2 _ (Rel_ans hR (by decide))
        · -- case 3
          have e9q : w9 = 3 := (nI_eq (by omega) (by decide)).mp cr17
          subst e9q
          refine And.intro (Wdo_142 hW) (Exists.intro _ (And.intro hq ?_))
          refine And.intro (NWo_0 hN) (Exists.intro _ (And.intro (NWr_0_29 hN) ?_))
          refine And.intro (NWi_13 hN (vi rfl (by omega))) ?_
          rw [nI_clamp (show p < 2 ^ 31 by omega)]
          rw [uI_ne (m := (uI m 0 0 (nI 0))) (a := 142) (b := (q + 13)) (by omega)]
          rw [uI_ne (m := m) (a := 0) (b := (q + 13)) (by omega)]
          refine And.intro ⟨by omega, Nat.le_of_ble_eq_true rfl, Nat.le_refl _, Nat.le_refl _⟩ (And.intro (Wdo_142 hW) ?_)
          refine C202 (m := (uI (uI m 0 0 (nI 0)) 142 0 (nI 0))) hW ?_
          refine And.intro ⟨rfl, trivial, Nat.le_refl _, Nat.le_refl _⟩ ?_
          have v8 := hLQ.2.2.2.2.2.2.2.2.1 p (show p < nv (mI m (a + 1) 8) by rw [hn8, nv_nI (by omega)]; exact hp)
          rw [show mI m (q + 13) p = mI m (a + 9) (p * 7 + 3) from v8.2.2.2.1]
          exact h2 _ (Rel_ans hR (by decide))
        · -- case 4
          have e9q : w9 = 4 := (nI_eq (by omega) (by decide)).mp cr17
          subst e9q
          refine And.intro (Wdo_142 hW) (Exists.intro _ (And.intro hq ?_))
          refine And.intro (NWo_0 hN) (Exists.intro _ (And.intro (NWr_0_30 hN) ?_))
          refine And.intro (NWi_14 hN (vi rfl (by omega))) ?_
          rw [nI_clamp (show p < 2 ^ 31 by omega)]
          rw [uI_ne (m := (uI m 0 0 (nI 0))) (a := 142) (b := (q + 14)) (by omega)]
          rw [uI_ne (m := m) (a := 0) (b := (q + 14)) (by omega)]
          refine And.intro ⟨by omega, Nat.le_of_ble_eq_true rfl, Nat.le_refl _, Nat.le_refl _⟩ (And.intro (Wdo_142 hW) ?_)
          refine C202 (m := (uI (uI m 0 0 (nI 0)) 142 0 (nI 0))) hW ?_
          refine And.intro ⟨rfl, trivial, Nat.le_refl _, Nat.le_refl _⟩ ?_
          have v8 := hLQ.2.2.2.2.2.2.2.2.1 p (show p < nv (mI m (a + 1) 8) by rw [hn8, nv_nI (by omega)]; exact hp)
          rw [show mI m (q + 14) p = mI m (a + 9) (p * 7 + 4) from v8.2.2.2.2.1]
          exact h2 _ (Rel_ans hR (by decide))
        · -- case 5
          have e9q : w9 = 5 := (nI_eq (by omega) (by decide)).mp cr17
          subst e9q
          refine And.intro (Wdo_142 hW) (Exists.intro _ (And.intro hq ?_))
          refine And.intro (NWo_0 hN) (Exists.intro _ (And.intro (NWr_0_31 hN) ?_))
          refine And.intro (NWi_15 hN (vi rfl (by omega))) ?_
          rw [nI_clamp (show p < 2 ^ 31 by omega)]
          rw [uI_ne (m := (uI m 0 0 (nI 0))) (a := 142) (b := (q + 15)) (by omega)]
          rw [uI_ne (m := m) (a := 0) (b := (q + 15)) (by omega)]
          refine And.intro ⟨by omega, Nat.le_of_ble_eq_true rfl, Nat.le_refl _, Nat.le_refl _⟩ (And.intro (Wdo_142 hW) ?_)
          refine C202 (m := (uI (uI m 0 0 (nI 0)) 142 0 (nI 0))) hW ?_
          refine And.intro ⟨rfl, trivial, Nat.le_refl _, Nat.le_refl _⟩ ?_
          have v8 := hLQ.2.2.2.2.2.2.2.2.1 p (show p < nv (mI m (a + 1) 8) by rw [hn8, nv_nI (by omega)]; exact hp)
          rw [show mI m (q + 15) p = mI m (a + 9) (p * 7 + 5) from v8.2.2.2.2.2.1]
          exact h2 _ (Rel_ans hR (by decide))
      · -- 8 not: ¬ y < nI 7
        refine And.intro ⟨by omega, Nat.le_of_ble_eq_true rfl, Nat.le_refl _, Nat.le_refl _⟩ (And.intro (Wdo_0 hW) ?_)
        refine C176 hW ?_
        refine And.intro ⟨rfl, trivial, Nat.le_refl _, Nat.le_refl _⟩ ?_
        refine h _ _ hW (fun Q2 h2 => ?_)
        refine ent (n := 168) z335 (by decide) rfl (by decide) (Nat.le_of_ble_eq_true rfl) (fun sc2 => ?_)
        refine And.intro (Wdo_142 hW) ?_
        refine And.intro ⟨by omega, Nat.le_of_ble_eq_true rfl, Nat.le_refl _, Nat.le_refl _⟩ (And.intro (Wdo_142 hW) ?_)
        refine C249 (m := (uI (uI m 0 0 (nI 1)) 142 0 (nI 0))) (by omega) hW (LN_u (LN_u ln8 (by decide)) (by decide)) (by omega) ?_
        refine And.intro (fun cr6 => False.elim (absurd (bi_ne0.mp cz3) (bi_eq0.mp cr6))) (fun cr6 => ?_)
        refine And.intro ⟨by omega, Nat.le_of_ble_eq_true rfl, Nat.le_refl _, Nat.le_refl _⟩ ?_
        refine C204 (m := (uI (uI m 0 0 (nI 1)) 142 0 (nI 0))) ?_
        refine And.intro (fun cr11 => False.elim (absurd (bi_ne0.mp cr11) (fun z9 => absurd z9.2 (fun y9 => cz8 (lt7_of_le y9))))) (fun cr11 => ?_)
        refine And.intro ⟨by omega, Nat.le_of_ble_eq_true rfl, Nat.le_refl _, Nat.le_refl _⟩ (And.intro (Wdo_142 hW) ?_)
        refine C200 (m := (uI (uI m 0 0 (nI 1)) 142 0 (nI 0))) hW ?_
        refine And.intro ⟨rfl, trivial, Nat.le_refl _, Nat.le_refl _⟩ ?_
        exact h2 _ (Rel_ans hR (by decide))
theorem P_village {d : Nat} {m : Mm} {Q : Option Value → Mm → Prop} {z : Nat} {x y : Int32} (hd : 16 ≤ d) (hR : Rel z m) (h : ∀ (r : Int32) m1, Wd m1.2.2 → (∀ Q2 : Option Value → Mm → Prop, (∀ m2, Rel z m2 → Q2 (some (.int r)) m2) → Cc d 0 0 336 [.ref 142, .int x, .int y] m1 Q2) → Q (some (.int r)) m1) : Cc d 0 0 172 [.ref 0, .int x, .int y] m Q := by
  obtain ⟨hW, hz, hS, a, b, hA, hX⟩ := id hR
  obtain ⟨hL, hLb, hab, ha, hb⟩ := RelA_L hW hA
  obtain ⟨n2r, hn2, bn2, ln2⟩ := RL_n (s := 2) (f := 5) hX.2.2.1 (by decide) (fun _ _ h => h.2.2.2.2.2.1)
  change n2r ≤ 6 at bn2
  obtain ⟨n4r, hn4, bn4, ln4⟩ := RL_n (s := 4) (f := 6) hX.2.2.1 (by decide) (fun _ _ h => h.2.2.2.2.2.2.1)
  change n4r ≤ 6 at bn4
  obtain ⟨n8r, hn8, bn8, ln8⟩ := RL_n (s := 8) (f := 10) hX.2.2.1 (by decide) (fun _ _ h => h.2.2.2.2.2.2.2.2.2.2.1)
  change n8r ≤ 8 at bn8
  obtain ⟨n10r, hn10, bn10, ln10⟩ := RL_n (s := 10) (f := 12) hX.2.2.1 (by decide) (fun _ _ h => h.2.2.2.2.2.2.2.2.2.2.2.2.1)
  change n10r ≤ 4 at bn10
  refine ent (n := 78) z172 (by decide) rfl (by decide) (Nat.le_of_ble_eq_true rfl) (fun sc => ?_)
  refine And.intro ⟨by omega, Nat.le_of_ble_eq_true rfl, Nat.le_refl _, Nat.le_refl _⟩ (And.intro (Wdo_0 hW) ?_)
  refine C186 (by omega) hW ha hL hn10 (by omega) ?_
  refine And.intro (fun cz3 => ?_) (fun cz3 => ?_)
  · -- 3 taken: bi (iR x n10r) = 0
    refine And.intro ⟨by omega, Nat.le_of_ble_eq_true rfl, Nat.le_refl _, Nat.le_refl _⟩ (And.intro (Wdo_0 hW) ?_)
    refine C176 hW ?_
    refine And.intro ⟨rfl, trivial, Nat.le_refl _, Nat.le_refl _⟩ ?_
    refine h _ _ hW (fun Q2 h2 => ?_)
    refine ent (n := 86) z336 (by decide) rfl (by decide) (Nat.le_of_ble_eq_true rfl) (fun sc2 => ?_)
    refine And.intro (Wdo_142 hW) ?_
    refine And.intro ⟨by omega, Nat.le_of_ble_eq_true rfl, Nat.le_refl _, Nat.le_refl _⟩ (And.intro (Wdo_142 hW) ?_)
    refine C250 (m := (uI (uI m 0 0 (nI 1)) 142 0 (nI 0))) (by omega) hW (LN_u (LN_u ln10 (by decide)) (by decide)) (by omega) ?_
    refine And.intro (fun cr6 => ?_) (fun cr6 => False.elim (absurd (bi_ne0.mp cr6) (bi_eq0.mp cz3)))
    refine And.intro ⟨by omega, Nat.le_of_ble_eq_true rfl, Nat.le_refl _, Nat.le_refl _⟩ (And.intro (Wdo_142 hW) ?_)
    refine C200 (m := (uI (uI m 0 0 (nI 1)) 142 0 (nI 0))) hW ?_
    refine And.intro ⟨rfl, trivial, Nat.le_refl _, Nat.le_refl _⟩ ?_
    exact h2 _ (Rel_ans hR (by decide))
  · -- 3 not: ¬ bi (iR x n10r) = 0
    refine And.intro (fun cz5 => ?_) (fun cz5 => ?_)
    · -- 5 taken: y < 0
      refine And.intro ⟨by omega, Nat.le_of_ble_eq_true rfl, Nat.le_refl _, Nat.le_refl _⟩ (And.intro (Wdo_0 hW) ?_)
      refine C176 hW ?_
      refine And.intro ⟨rfl, trivial, Nat.le_refl _, Nat.le_refl _⟩ ?_
      refine h _ _ hW (fun Q2 h2 => ?_)
      refine ent (n := 86) z336 (by decide) rfl (by decide) (Nat.le_of_ble_eq_true rfl) (fun sc2 => ?_)
      refine And.intro (Wdo_142 hW) ?_
      refine And.intro ⟨by omega, Nat.le_of_ble_eq_true rfl, Nat.le_refl _, Nat.le_refl _⟩ (And.intro (Wdo_142 hW) ?_)
      refine C250 (m := (uI (uI m 0 0 (nI 1)) 142 0 (nI 0))) (by omega) hW (LN_u (LN_u ln10 (by decide)) (by decide)) (by omega) ?_
      refine And.intro (fun cr6 => False.elim (absurd (bi_ne0.mp cz3) (bi_eq0.mp cr6))) (fun cr6 => ?_)
      refine And.intro ⟨by omega, Nat.le_of_ble_eq_true rfl, Nat.le_refl _, Nat.le_refl _⟩ ?_
      refine C204 (m := (uI (uI m 0 0 (nI 1)) 142 0 (nI 0))) ?_
      refine And.intro (fun cr11 => ?_) (fun cr11 => False.elim (absurd (bi_ne0.mp cr11) (fun z9 => absurd cz5 (Int32.not_lt.mpr z9.1))))
      refine And.intro ⟨by omega, Nat.le_of_ble_eq_true rfl, Nat.le_refl _, Nat.le_refl _⟩ (And.intro (Wdo_142 hW) ?_)
      refine C200 (m := (uI (uI m 0 0 (nI 1)) 142 0 (nI 0))) hW ?_
      refine And.intro ⟨rfl, trivial, Nat.le_refl _, Nat.le_refl _⟩ ?_
      exact h2 _ (Rel_ans hR (by decide))
    · -- 5 not: ¬ y < 0
      refine And.intro (fun cz8 => ?_) (fun cz8 => ?_)
      · -- 8 taken: y ≤ nI 1
        obtain ⟨v, hv, rfl⟩ := bi_ne0.mp cz3
        obtain ⟨q, hq1⟩ := RL_1 (s := 10) hX.2.2.1 (by decide) hn10 (show 0 < n10r by omega) (by omega)
        obtain ⟨hq, w, u, ha0, ha1, hq0, hq1w, hw6, hu4, hwu, hgr⟩ := RL_q hq1
        obtain ⟨h158, hqz, hN, h3, ⟨T, hI⟩, hst, hla, hLQ, hSR⟩ := hq1
        have hq6 : mI m q 6 = nI n4r := hLQ.1.2.2.2.2.2.2.1.trans hn4
        have hq5 : mI m q 5 = nI n2r := hLQ.1.2.2.2.2.2.1.trans hn2
        refine And.intro (fun cz15 => ?_) (fun cz15 => ?_)
        · -- 15 taken: ¬ y = 0
          refine And.intro (Wdo_0 hW) (Exists.intro _ (And.intro (Wdr_0_4 hW) ?_))
          refine And.intro (SWo_0 (Wd_S hW)) (Exists.intro _ (And.intro (SWr_0_4 (Wd_S hW)) ?_))
          refine And.intro (SWi_3 (Wd_S hW) (vi rfl (by omega))) ?_
          rw [nI_clamp (show v < 2 ^ 31 by omega)]
          refine And.intro ⟨by omega, Nat.le_of_ble_eq_true rfl, Nat.le_refl _, Nat.le_refl _⟩ (And.intro (Wdo_0 hW) ?_)
          refine C177 hW ?_
          refine And.intro ⟨rfl, trivial, Nat.le_refl _, Nat.le_refl _⟩ ?_
          refine h _ _ hW (fun Q2 h2 => ?_)
          refine ent (n := 86) z336 (by decide) rfl (by decide) (Nat.le_of_ble_eq_true rfl) (fun sc2 => ?_)
          refine And.intro (Wdo_142 hW) ?_
          refine And.intro ⟨by omega, Nat.le_of_ble_eq_true rfl, Nat.le_refl _, Nat.le_refl _⟩ (And.intro (Wdo_142 hW) ?_)
          refine C250 (m := (uI (uI m 0 0 (nI 0)) 142 0 (nI 0))) (by omega) hW (LN_u (LN_u ln10 (by decide)) (by decide)) (by omega) ?_
          refine And.intro (fun cr6 => False.elim (absurd (bi_ne0.mp cz3) (bi_eq0.mp cr6))) (fun cr6 => ?_)
          refine And.intro ⟨by omega, Nat.le_of_ble_eq_true rfl, Nat.le_refl _, Nat.le_refl _⟩ ?_
          refine C204 (m := (uI (uI m 0 0 (nI 0)) 142 0 (nI 0))) ?_
          refine And.intro (fun cr11 => False.elim (absurd (⟨Int32.not_lt.mp cz5, cz8⟩) (bi_eq0.mp cr11))) (fun cr11 => ?_)
          refine And.intro (fun cr14 => ?_) (fun cr14 => False.elim (absurd cr14 (cz15)))
          refine And.intro (Wdo_142 hW) (Exists.intro _ (And.intro (Wdr_142_18 hW) ?_))
          have er26 : nI 43 + nI v = nI (43 + v) := by simp only [nI_add, pk_mul]
          refine And.intro (Wdi_145 hW (vi er26 (by omega))) ?_
          rw [vc er26 (by omega)]
          rw [uI_ne (m := (uI m 0 0 (nI 0))) (a := 142) (b := 145) (by omega)]
          rw [uI_ne (m := m) (a := 0) (b := 145) (by omega)]
          refine And.intro ⟨by omega, Nat.le_of_ble_eq_true rfl, Nat.le_refl _, Nat.le_refl _⟩ (And.intro (Wdo_142 hW) ?_)
          refine C202 (m := (uI (uI m 0 0 (nI 0)) 142 0 (nI 0))) hW ?_
          refine And.intro ⟨rfl, trivial, Nat.le_refl _, Nat.le_refl _⟩ ?_
          rw [show mI m 145 (43 + v) = mI m (20 + 3) v from hX.2.1.2.2.2.1 v (by omega)]
          exact h2 _ (Rel_ans hR (by decide))
        · -- 15 not: y = 0
          refine And.intro (Wdo_0 hW) (Exists.intro _ (And.intro ha ?_))
          refine And.intro (LWo_0 hL) (Exists.intro _ (And.intro (LWr_0_14 hL) ?_))
          refine And.intro (LWi_11 hL (vi rfl (by omega))) ?_
          rw [nI_clamp (show v < 2 ^ 31 by omega)]
          refine And.intro ⟨by omega, Nat.le_of_ble_eq_true rfl, Nat.le_refl _, Nat.le_refl _⟩ (And.intro (Wdo_0 hW) ?_)
          refine C177 hW ?_
          refine And.intro ⟨rfl, trivial, Nat.le_refl _, Nat.le_refl _⟩ ?_
          refine h _ _ hW (fun Q2 h2 => ?_)
          refine ent (n := 86) z336 (by decide) rfl (by decide) (Nat.le_of_ble_eq_true rfl) (fun sc2 => ?_)
          refine And.intro (Wdo_142 hW) ?_
          refine And.intro ⟨by omega, Nat.le_of_ble_eq_true rfl, Nat.le_refl _, Nat.le_refl _⟩ (And.intro (Wdo_142 hW) ?_)
          refine C250 (m := (uI (uI m 0 0 (nI 0)) 142 0 (nI 0))) (by omega) hW (LN_u (LN_u ln10 (by decide)) (by decide)) (by omega) ?_
          refine And.intro (fun cr6 => False.elim (absurd (bi_ne0.mp cz3) (bi_eq0.mp cr6))) (fun cr6 => ?_)
          refine And.intro ⟨by omega, Nat.le_of_ble_eq_true rfl, Nat.le_refl _, Nat.le_refl _⟩ ?_
          refine C204 (m := (uI (uI m 0 0 (nI 0)) 142 0 (nI 0))) ?_
          refine And.intro (fun cr11 => False.elim (absurd (⟨Int32.not_lt.mp cz5, cz8⟩) (bi_eq0.mp cr11))) (fun cr11 => ?_)
          refine And.intro (fun cr14 => False.elim (absurd (cz15) cr14)) (fun cr14 => ?_)
          refine And.intro (Wdo_142 hW) (Exists.intro _ (And.intro hq ?_))
          refine And.intro (NWo_0 hN) (Exists.intro _ (And.intro (NWr_0_34 hN) ?_))
          refine And.intro (NWi_18 hN (vi rfl (by omega))) ?_
          rw [nI_clamp (show v < 2 ^ 31 by omega)]
          rw [uI_ne (m := (uI m 0 0 (nI 0))) (a := 142) (b := (q + 18)) (by omega)]
          rw [uI_ne (m := m) (a := 0) (b := (q + 18)) (by omega)]
          refine And.intro ⟨by omega, Nat.le_of_ble_eq_true rfl, Nat.le_refl _, Nat.le_refl _⟩ (And.intro (Wdo_142 hW) ?_)
          refine C202 (m := (uI (uI m 0 0 (nI 0)) 142 0 (nI 0))) hW ?_
          refine And.intro ⟨rfl, trivial, Nat.le_refl _, Nat.le_refl _⟩ ?_
          rw [show mI m (q + 18) v = mI m (a + 11) v from hLQ.2.2.2.2.2.2.2.2.2.2.1.1 v (show v < nv (mI m (a + 1) 10) by rw [hn10, nv_nI (by omega)]; exact hv)]
          exact h2 _ (Rel_ans hR (by decide))
      · -- 8 not: ¬ y ≤ nI 1
        refine And.intro ⟨by omega, Nat.le_of_ble_eq_true rfl, Nat.le_refl _, Nat.le_refl _⟩ (And.intro (Wdo_0 hW) ?_)
        refine C176 hW ?_
        refine And.intro ⟨rfl, trivial, Nat.le_refl _, Nat.le_refl _⟩ ?_
        refine h _ _ hW (fun Q2 h2 => ?_)
        refine ent (n := 86) z336 (by decide) rfl (by decide) (Nat.le_of_ble_eq_true rfl) (fun sc2 => ?_)
        refine And.intro (Wdo_142 hW) ?_
        refine And.intro ⟨by omega, Nat.le_of_ble_eq_true rfl, Nat.le_refl _, Nat.le_refl _⟩ (And.intro (Wdo_142 hW) ?_)
        refine C250 (m := (uI (uI m 0 0 (nI 1)) 142 0 (nI 0))) (by omega) hW (LN_u (LN_u ln10 (by decide)) (by decide)) (by omega) ?_
        refine And.intro (fun cr6 => False.elim (absurd (bi_ne0.mp cz3) (bi_eq0.mp cr6))) (fun cr6 => ?_)
        refine And.intro ⟨by omega, Nat.le_of_ble_eq_true rfl, Nat.le_refl _, Nat.le_refl _⟩ ?_
        refine C204 (m := (uI (uI m 0 0 (nI 1)) 142 0 (nI 0))) ?_
        refine And.intro (fun cr11 => ?_) (fun cr11 => False.elim (absurd (bi_ne0.mp cr11) (fun z9 => absurd z9.2 cz8)))
        refine And.intro ⟨by omega, Nat.le_of_ble_eq_true rfl, Nat.le_refl _, Nat.le_refl _⟩ (And.intro (Wdo_142 hW) ?_)
        refine C200 (m := (uI (uI m 0 0 (nI 1)) 142 0 (nI 0))) hW ?_
        refine And.intro ⟨rfl, trivial, Nat.le_refl _, Nat.le_refl _⟩ ?_
        exact h2 _ (Rel_ans hR (by decide))
