theorem sz_d {y : Int32} (h : y.toInt < 0 ∨ (15 : Int) ≤ y.toInt) (z : nI 0 ≤ y ∧ y ≤ nI 13) : False := by
  have h0 : (nI 0).toInt = 0 := by decide
  have h13 : (nI 13).toInt = 13 := by decide
  rw [Int32.le_iff_toInt_le, Int32.le_iff_toInt_le] at z
  omega
theorem P_size {d : Nat} {m : Mm} {Q : Option Value → Mm → Prop} {z : Nat} {y : Int32} (hd : 16 ≤ d) (hR : Rel z m) (h : ∀ (r : Int32) m1, Wd m1.2.2 → (∀ Q2 : Option Value → Mm → Prop, (∀ m2, Rel z m2 → Q2 (some (.int r)) m2) → Cc d 0 0 338 [.ref 142, .int y] m1 Q2) → Q (some (.int r)) m1) : Cc d 0 0 174 [.ref 0, .int y] m Q := by
  obtain ⟨hW, hz, hS, a, b, hA, hX⟩ := id hR
  obtain ⟨hL, hLb, hab, ha, hb⟩ := RelA_L hW hA
  obtain ⟨n2r, hn2, bn2, ln2⟩ := RL_n (s := 2) (f := 5) hX.2.2.1 (by decide) (fun _ _ h => h.2.2.2.2.2.1)
  change n2r ≤ 6 at bn2
  obtain ⟨n4r, hn4, bn4, ln4⟩ := RL_n (s := 4) (f := 6) hX.2.2.1 (by decide) (fun _ _ h => h.2.2.2.2.2.2.1)
  change n4r ≤ 6 at bn4
  obtain ⟨n8r, hn8, bn8, ln8⟩ := RL_n (s := 8) (f := 10) hX.2.2.1 (by decide) (fun _ _ h => h.2.2.2.2.2.2.2.2.2.2.1)
  change n8r ≤ 8 at bn8
  obtain ⟨n10r, hn10, bn10, ln10⟩ := RL_n (s := 10) (f := 12) hX.2.2.1 (by decide) (fun _ _ h => h.2.2.2.2.2.2.2.2.2.2.2.2.1)
  change n10r ≤ 4 at bn10
  rcases RL_st hX.2.2.1 with ⟨hL0, hst0⟩ | ⟨q, hq1, hst0⟩
  · skip
    refine ent (n := 166) z174 (by decide) rfl (by decide) (Nat.le_of_ble_eq_true rfl) (fun sc => ?_)
    refine And.intro (fun cz1 => ?_) (And.intro (fun cz1 => ?_) (And.intro (fun cz1 => ?_) (And.intro (fun cz1 => ?_) (And.intro (fun cz1 => ?_) (And.intro (fun cz1 => ?_) (And.intro (fun cz1 => ?_) (And.intro (fun cz1 => ?_) (And.intro (fun cz1 => ?_) (And.intro (fun cz1 => ?_) (And.intro (fun cz1 => ?_) (And.intro (fun cz1 => ?_) (And.intro (fun cz1 => ?_) (And.intro (fun cz1 => ?_) (And.intro (fun cz1 => ?_) (And.intro (fun cz1 => ?_) (trivial))))))))))))))))
    · -- case d
      refine And.intro ⟨rfl, trivial, Nat.le_refl _, Nat.le_refl _⟩ ?_
      refine h _ _ hW (fun Q2 h2 => ?_)
      refine ent (n := 176) z338 (by decide) rfl (by decide) (Nat.le_of_ble_eq_true rfl) (fun sc2 => ?_)
      refine And.intro (Wdo_142 hW) ?_
      refine And.intro (fun cr5 => ?_) (fun cr5 => False.elim (absurd cr5 (fun z9 => absurd (z9 ▸ cz1 : (nI 14).toInt < 0 ∨ (15 : Int) ≤ (nI 14).toInt) (by decide))))
      refine And.intro ⟨by omega, Nat.le_of_ble_eq_true rfl, Nat.le_refl _, Nat.le_refl _⟩ ?_
      refine C204 (m := (uI m 142 0 (nI 0))) ?_
      refine And.intro (fun cr13 => False.elim (absurd (bi_ne0.mp cr13) (fun z9 => sz_d cz1 z9))) (fun cr13 => ?_)
      refine And.intro ⟨rfl, trivial, Nat.le_refl _, Nat.le_refl _⟩ ?_
      exact h2 _ (Rel_q hR)
    · -- case 0
      subst cz1
      refine And.intro (Wdo_0 hW) (Exists.intro _ (And.intro ha ?_))
      refine And.intro (LWo_0 hL) ?_
      refine And.intro ⟨rfl, trivial, Nat.le_refl _, Nat.le_refl _⟩ ?_
      refine h _ _ hW (fun Q2 h2 => ?_)
      refine ent (n := 176) z338 (by decide) rfl (by decide) (Nat.le_of_ble_eq_true rfl) (fun sc2 => ?_)
      refine And.intro (Wdo_142 hW) ?_
      refine And.intro (fun cr5 => ?_) (fun cr5 => False.elim (absurd cr5 (by decide)))
      refine And.intro ⟨by omega, Nat.le_of_ble_eq_true rfl, Nat.le_refl _, Nat.le_refl _⟩ ?_
      refine C204 (m := (uI m 142 0 (nI 0))) ?_
      refine And.intro (fun cr13 => ?_) (fun cr13 => False.elim (absurd ((⟨by decide, by decide⟩ : nI 0 ≤ nI 0 ∧ nI 0 ≤ nI 13)) (bi_eq0.mp cr13)))
      refine And.intro (Wdo_142 hW) (Exists.intro _ (And.intro (show va_rf (mR m 142 3) = .null by rw [hL0.1]; rfl) ?_))
      refine And.intro ⟨rfl, trivial, Nat.le_refl _, Nat.le_refl _⟩ ?_
      rw [show mI m a 0 = nI 0 from hL0.2.1] at h2
      exact h2 _ (Rel_q hR)
    · -- case 1
      subst cz1
      refine And.intro (Wdo_0 hW) (Exists.intro _ (And.intro ha ?_))
      refine And.intro (LWo_0 hL) ?_
      refine And.intro ⟨rfl, trivial, Nat.le_refl _, Nat.le_refl _⟩ ?_
      refine h _ _ hW (fun Q2 h2 => ?_)
      refine ent (n := 176) z338 (by decide) rfl (by decide) (Nat.le_of_ble_eq_true rfl) (fun sc2 => ?_)
      refine And.intro (Wdo_142 hW) ?_
      refine And.intro (fun cr5 => ?_) (fun cr5 => False.elim (absurd cr5 (by decide)))
      refine And.intro ⟨by omega, Nat.le_of_ble_eq_true rfl, Nat.le_refl _, Nat.le_refl _⟩ ?_
      refine C204 (m := (uI m 142 0 (nI 0))) ?_
      refine And.intro (fun cr13 => ?_) (fun cr13 => False.elim (absurd ((⟨by decide, by decide⟩ : nI 0 ≤ nI 1 ∧ nI 1 ≤ nI 13)) (bi_eq0.mp cr13)))
      refine And.intro (Wdo_142 hW) (Exists.intro _ (And.intro (show va_rf (mR m 142 3) = .null by rw [hL0.1]; rfl) ?_))
      refine And.intro ⟨rfl, trivial, Nat.le_refl _, Nat.le_refl _⟩ ?_
      rw [show mI m a 1 = nI 0 from hL0.2.2.1] at h2
      exact h2 _ (Rel_q hR)
    · -- case 2
      subst cz1
      refine And.intro (Wdo_0 hW) (Exists.intro _ (And.intro ha ?_))
      refine And.intro (LWo_0 hL) ?_
      refine And.intro ⟨rfl, trivial, Nat.le_refl _, Nat.le_refl _⟩ ?_
      refine h _ _ hW (fun Q2 h2 => ?_)
      refine ent (n := 176) z338 (by decide) rfl (by decide) (Nat.le_of_ble_eq_true rfl) (fun sc2 => ?_)
      refine And.intro (Wdo_142 hW) ?_
      refine And.intro (fun cr5 => ?_) (fun cr5 => False.elim (absurd cr5 (by decide)))
      refine And.intro ⟨by omega, Nat.le_of_ble_eq_true rfl, Nat.le_refl _, Nat.le_refl _⟩ ?_
      refine C204 (m := (uI m 142 0 (nI 0))) ?_
      refine And.intro (fun cr13 => ?_) (fun cr13 => False.elim (absurd ((⟨by decide, by decide⟩ : nI 0 ≤ nI 2 ∧ nI 2 ≤ nI 13)) (bi_eq0.mp cr13)))
      refine And.intro (Wdo_142 hW) (Exists.intro _ (And.intro (show va_rf (mR m 142 3) = .null by rw [hL0.1]; rfl) ?_))
      refine And.intro ⟨rfl, trivial, Nat.le_refl _, Nat.le_refl _⟩ ?_
      rw [show mI m a 2 = nI 0 from hL0.2.2.2.2.1] at h2
      exact h2 _ (Rel_q hR)
    · -- case 3
      subst cz1
      refine And.intro (Wdo_0 hW) (Exists.intro _ (And.intro ha ?_))
      refine And.intro ⟨by omega, Nat.le_of_ble_eq_true rfl, Nat.le_refl _, Nat.le_refl _⟩ (And.intro (LWo_0 hL) ?_)
      refine C22 hL ?_
      rw [hn2]
      refine And.intro ⟨rfl, trivial, Nat.le_refl _, Nat.le_refl _⟩ ?_
      refine h _ _ hW (fun Q2 h2 => ?_)
      refine ent (n := 176) z338 (by decide) rfl (by decide) (Nat.le_of_ble_eq_true rfl) (fun sc2 => ?_)
      refine And.intro (Wdo_142 hW) ?_
      refine And.intro (fun cr5 => ?_) (fun cr5 => False.elim (absurd cr5 (by decide)))
      refine And.intro ⟨by omega, Nat.le_of_ble_eq_true rfl, Nat.le_refl _, Nat.le_refl _⟩ ?_
      refine C204 (m := (uI m 142 0 (nI 0))) ?_
      refine And.intro (fun cr13 => ?_) (fun cr13 => False.elim (absurd ((⟨by decide, by decide⟩ : nI 0 ≤ nI 3 ∧ nI 3 ≤ nI 13)) (bi_eq0.mp cr13)))
      refine And.intro (Wdo_142 hW) (Exists.intro _ (And.intro (show va_rf (mR m 142 3) = .null by rw [hL0.1]; rfl) ?_))
      refine And.intro ⟨rfl, trivial, Nat.le_refl _, Nat.le_refl _⟩ ?_
      rw [show nI n2r = nI 0 from hn2.symm.trans (hL0.2.2.2.1 2 (by decide))] at h2
      exact h2 _ (Rel_q hR)
    · -- case 4
      subst cz1
      refine And.intro (Wdo_0 hW) (Exists.intro _ (And.intro ha ?_))
      refine And.intro ⟨by omega, Nat.le_of_ble_eq_true rfl, Nat.le_refl _, Nat.le_refl _⟩ (And.intro (LWo_0 hL) ?_)
      refine C23 hL ?_
      rw [hn4]
      refine And.intro ⟨rfl, trivial, Nat.le_refl _, Nat.le_refl _⟩ ?_
      refine h _ _ hW (fun Q2 h2 => ?_)
      refine ent (n := 176) z338 (by decide) rfl (by decide) (Nat.le_of_ble_eq_true rfl) (fun sc2 => ?_)
      refine And.intro (Wdo_142 hW) ?_
      refine And.intro (fun cr5 => ?_) (fun cr5 => False.elim (absurd cr5 (by decide)))
      refine And.intro ⟨by omega, Nat.le_of_ble_eq_true rfl, Nat.le_refl _, Nat.le_refl _⟩ ?_
      refine C204 (m := (uI m 142 0 (nI 0))) ?_
      refine And.intro (fun cr13 => ?_) (fun cr13 => False.elim (absurd ((⟨by decide, by decide⟩ : nI 0 ≤ nI 4 ∧ nI 4 ≤ nI 13)) (bi_eq0.mp cr13)))
      refine And.intro (Wdo_142 hW) (Exists.intro _ (And.intro (show va_rf (mR m 142 3) = .null by rw [hL0.1]; rfl) ?_))
      refine And.intro ⟨rfl, trivial, Nat.le_refl _, Nat.le_refl _⟩ ?_
      rw [show nI n4r = nI 0 from hn4.symm.trans (hL0.2.2.2.1 4 (by decide))] at h2
      exact h2 _ (Rel_q hR)
    · -- case 5
      subst cz1
      refine And.intro (Wdo_0 hW) (Exists.intro _ (And.intro ha ?_))
      refine And.intro (LWo_0 hL) (Exists.intro _ (And.intro (LWr_0_4 hL) ?_))
      refine And.intro (LWi_1 hL (vi rfl (by omega))) ?_
      rw [nI_clamp (show 5 < 2 ^ 31 by omega)]
      refine And.intro ⟨rfl, trivial, Nat.le_refl _, Nat.le_refl _⟩ ?_
      refine h _ _ hW (fun Q2 h2 => ?_)
      refine ent (n := 176) z338 (by decide) rfl (by decide) (Nat.le_of_ble_eq_true rfl) (fun sc2 => ?_)
      refine And.intro (Wdo_142 hW) ?_
      refine And.intro (fun cr5 => ?_) (fun cr5 => False.elim (absurd cr5 (by decide)))
      refine And.intro ⟨by omega, Nat.le_of_ble_eq_true rfl, Nat.le_refl _, Nat.le_refl _⟩ ?_
      refine C204 (m := (uI m 142 0 (nI 0))) ?_
      refine And.intro (fun cr13 => ?_) (fun cr13 => False.elim (absurd ((⟨by decide, by decide⟩ : nI 0 ≤ nI 5 ∧ nI 5 ≤ nI 13)) (bi_eq0.mp cr13)))
      refine And.intro (Wdo_142 hW) (Exists.intro _ (And.intro (show va_rf (mR m 142 3) = .null by rw [hL0.1]; rfl) ?_))
      refine And.intro ⟨rfl, trivial, Nat.le_refl _, Nat.le_refl _⟩ ?_
      rw [show mI m (a + 1) 5 = nI 0 from hL0.2.2.2.1 5 (by decide)] at h2
      exact h2 _ (Rel_q hR)
    · -- case 6
      subst cz1
      refine And.intro (Wdo_0 hW) (Exists.intro _ (And.intro ha ?_))
      refine And.intro ⟨by omega, Nat.le_of_ble_eq_true rfl, Nat.le_refl _, Nat.le_refl _⟩ (And.intro (LWo_0 hL) ?_)
      refine C24 hL ?_
      rw [hn8]
      refine And.intro ⟨rfl, trivial, Nat.le_refl _, Nat.le_refl _⟩ ?_
      refine h _ _ hW (fun Q2 h2 => ?_)
      refine ent (n := 176) z338 (by decide) rfl (by decide) (Nat.le_of_ble_eq_true rfl) (fun sc2 => ?_)
      refine And.intro (Wdo_142 hW) ?_
      refine And.intro (fun cr5 => ?_) (fun cr5 => False.elim (absurd cr5 (by decide)))
      refine And.intro ⟨by omega, Nat.le_of_ble_eq_true rfl, Nat.le_refl _, Nat.le_refl _⟩ ?_
      refine C204 (m := (uI m 142 0 (nI 0))) ?_
      refine And.intro (fun cr13 => ?_) (fun cr13 => False.elim (absurd ((⟨by decide, by decide⟩ : nI 0 ≤ nI 6 ∧ nI 6 ≤ nI 13)) (bi_eq0.mp cr13)))
      refine And.intro (Wdo_142 hW) (Exists.intro _ (And.intro (show va_rf (mR m 142 3) = .null by rw [hL0.1]; rfl) ?_))
      refine And.intro ⟨rfl, trivial, Nat.le_refl _, Nat.le_refl _⟩ ?_
      rw [show nI n8r = nI 0 from hn8.symm.trans (hL0.2.2.2.1 8 (by decide))] at h2
      exact h2 _ (Rel_q hR)
    · -- case 7
      subst cz1
      refine And.intro (Wdo_0 hW) (Exists.intro _ (And.intro ha ?_))
      refine And.intro (LWo_0 hL) (Exists.intro _ (And.intro (LWr_0_4 hL) ?_))
      refine And.intro (LWi_1 hL (vi rfl (by omega))) ?_
      rw [nI_clamp (show 9 < 2 ^ 31 by omega)]
      refine And.intro ⟨rfl, trivial, Nat.le_refl _, Nat.le_refl _⟩ ?_
      refine h _ _ hW (fun Q2 h2 => ?_)
      refine ent (n := 176) z338 (by decide) rfl (by decide) (Nat.le_of_ble_eq_true rfl) (fun sc2 => ?_)
      refine And.intro (Wdo_142 hW) ?_
      refine And.intro (fun cr5 => ?_) (fun cr5 => False.elim (absurd cr5 (by decide)))
      refine And.intro ⟨by omega, Nat.le_of_ble_eq_true rfl, Nat.le_refl _, Nat.le_refl _⟩ ?_
      refine C204 (m := (uI m 142 0 (nI 0))) ?_
      refine And.intro (fun cr13 => ?_) (fun cr13 => False.elim (absurd ((⟨by decide, by decide⟩ : nI 0 ≤ nI 7 ∧ nI 7 ≤ nI 13)) (bi_eq0.mp cr13)))
      refine And.intro (Wdo_142 hW) (Exists.intro _ (And.intro (show va_rf (mR m 142 3) = .null by rw [hL0.1]; rfl) ?_))
      refine And.intro ⟨rfl, trivial, Nat.le_refl _, Nat.le_refl _⟩ ?_
      rw [show mI m (a + 1) 9 = nI 0 from hL0.2.2.2.1 9 (by decide)] at h2
      exact h2 _ (Rel_q hR)
    · -- case 8
      subst cz1
      refine And.intro (Wdo_0 hW) (Exists.intro _ (And.intro ha ?_))
      refine And.intro ⟨by omega, Nat.le_of_ble_eq_true rfl, Nat.le_refl _, Nat.le_refl _⟩ (And.intro (LWo_0 hL) ?_)
      refine C25 hL ?_
      rw [hn10]
      refine And.intro ⟨rfl, trivial, Nat.le_refl _, Nat.le_refl _⟩ ?_
      refine h _ _ hW (fun Q2 h2 => ?_)
      refine ent (n := 176) z338 (by decide) rfl (by decide) (Nat.le_of_ble_eq_true rfl) (fun sc2 => ?_)
      refine And.intro (Wdo_142 hW) ?_
      refine And.intro (fun cr5 => ?_) (fun cr5 => False.elim (absurd cr5 (by decide)))
      refine And.intro ⟨by omega, Nat.le_of_ble_eq_true rfl, Nat.le_refl _, Nat.le_refl _⟩ ?_
      refine C204 (m := (uI m 142 0 (nI 0))) ?_
      refine And.intro (fun cr13 => ?_) (fun cr13 => False.elim (absurd ((⟨by decide, by decide⟩ : nI 0 ≤ nI 8 ∧ nI 8 ≤ nI 13)) (bi_eq0.mp cr13)))
      refine And.intro (Wdo_142 hW) (Exists.intro _ (And.intro (show va_rf (mR m 142 3) = .null by rw [hL0.1]; rfl) ?_))
      refine And.intro ⟨rfl, trivial, Nat.le_refl _, Nat.le_refl _⟩ ?_
      rw [show nI n10r = nI 0 from hn10.symm.trans (hL0.2.2.2.1 10 (by decide))] at h2
      exact h2 _ (Rel_q hR)
    · -- case 9
      subst cz1
      refine And.intro (Wdo_0 hW) (Exists.intro _ (And.intro ha ?_))
      refine And.intro (LWo_0 hL) (Exists.intro _ (And.intro (LWr_0_4 hL) ?_))
      refine And.intro (LWi_1 hL (vi rfl (by omega))) ?_
      rw [nI_clamp (show 11 < 2 ^ 31 by omega)]
      refine And.intro ⟨rfl, trivial, Nat.le_refl _, Nat.le_refl _⟩ ?_
      refine h _ _ hW (fun Q2 h2 => ?_)
      refine ent (n := 176) z338 (by decide) rfl (by decide) (Nat.le_of_ble_eq_true rfl) (fun sc2 => ?_)
      refine And.intro (Wdo_142 hW) ?_
      refine And.intro (fun cr5 => ?_) (fun cr5 => False.elim (absurd cr5 (by decide)))
      refine And.intro ⟨by omega, Nat.le_of_ble_eq_true rfl, Nat.le_refl _, Nat.le_refl _⟩ ?_
      refine C204 (m := (uI m 142 0 (nI 0))) ?_
      refine And.intro (fun cr13 => ?_) (fun cr13 => False.elim (absurd ((⟨by decide, by decide⟩ : nI 0 ≤ nI 9 ∧ nI 9 ≤ nI 13)) (bi_eq0.mp cr13)))
      refine And.intro (Wdo_142 hW) (Exists.intro _ (And.intro (show va_rf (mR m 142 3) = .null by rw [hL0.1]; rfl) ?_))
      refine And.intro ⟨rfl, trivial, Nat.le_refl _, Nat.le_refl _⟩ ?_
      rw [show mI m (a + 1) 11 = nI 0 from hL0.2.2.2.1 11 (by decide)] at h2
      exact h2 _ (Rel_q hR)
    · -- case 10
      subst cz1
      refine And.intro (Wdo_0 hW) (Exists.intro _ (And.intro ha ?_))
      refine And.intro (LWo_0 hL) (Exists.intro _ (And.intro (LWr_0_4 hL) ?_))
      refine And.intro (LWi_1 hL (vi rfl (by omega))) ?_
      rw [nI_clamp (show 12 < 2 ^ 31 by omega)]
      refine And.intro ⟨rfl, trivial, Nat.le_refl _, Nat.le_refl _⟩ ?_
      refine h _ _ hW (fun Q2 h2 => ?_)
      refine ent (n := 176) z338 (by decide) rfl (by decide) (Nat.le_of_ble_eq_true rfl) (fun sc2 => ?_)
      refine And.intro (Wdo_142 hW) ?_
      refine And.intro (fun cr5 => ?_) (fun cr5 => False.elim (absurd cr5 (by decide)))
      refine And.intro ⟨by omega, Nat.le_of_ble_eq_true rfl, Nat.le_refl _, Nat.le_refl _⟩ ?_
      refine C204 (m := (uI m 142 0 (nI 0))) ?_
      refine And.intro (fun cr13 => ?_) (fun cr13 => False.elim (absurd ((⟨by decide, by decide⟩ : nI 0 ≤ nI 10 ∧ nI 10 ≤ nI 13)) (bi_eq0.mp cr13)))
      refine And.intro (Wdo_142 hW) (Exists.intro _ (And.intro (show va_rf (mR m 142 3) = .null by rw [hL0.1]; rfl) ?_))
      refine And.intro ⟨rfl, trivial, Nat.le_refl _, Nat.le_refl _⟩ ?_
      rw [show mI m (a + 1) 12 = nI 0 from hL0.2.2.2.1 12 (by decide)] at h2
      exact h2 _ (Rel_q hR)
    · -- case 11
      subst cz1
      refine And.intro (Wdo_0 hW) (Exists.intro _ (And.intro (Wdr_0_4 hW) ?_))
      refine And.intro (SWo_0 (Wd_S hW)) ?_
      refine And.intro ⟨rfl, trivial, Nat.le_refl _, Nat.le_refl _⟩ ?_
      refine h _ _ hW (fun Q2 h2 => ?_)
      refine ent (n := 176) z338 (by decide) rfl (by decide) (Nat.le_of_ble_eq_true rfl) (fun sc2 => ?_)
      refine And.intro (Wdo_142 hW) ?_
      refine And.intro (fun cr5 => ?_) (fun cr5 => False.elim (absurd cr5 (by decide)))
      refine And.intro ⟨by omega, Nat.le_of_ble_eq_true rfl, Nat.le_refl _, Nat.le_refl _⟩ ?_
      refine C204 (m := (uI m 142 0 (nI 0))) ?_
      refine And.intro (fun cr13 => ?_) (fun cr13 => False.elim (absurd ((⟨by decide, by decide⟩ : nI 0 ≤ nI 11 ∧ nI 11 ≤ nI 13)) (bi_eq0.mp cr13)))
      refine And.intro (Wdo_142 hW) (Exists.intro _ (And.intro (show va_rf (mR m 142 3) = .null by rw [hL0.1]; rfl) ?_))
      refine And.intro ⟨rfl, trivial, Nat.le_refl _, Nat.le_refl _⟩ ?_
      rw [show mI m 20 0 = nI 0 from hL0.2.2.2.2.2.1] at h2
      exact h2 _ (Rel_q hR)
    · -- case 12
      subst cz1
      refine And.intro (Wdo_0 hW) (Exists.intro _ (And.intro (Wdr_0_5 hW) ?_))
      refine And.intro (Wdo_24 hW) ?_
      refine And.intro ⟨rfl, trivial, Nat.le_refl _, Nat.le_refl _⟩ ?_
      refine h _ _ hW (fun Q2 h2 => ?_)
      refine ent (n := 176) z338 (by decide) rfl (by decide) (Nat.le_of_ble_eq_true rfl) (fun sc2 => ?_)
      refine And.intro (Wdo_142 hW) ?_
      refine And.intro (fun cr5 => ?_) (fun cr5 => False.elim (absurd cr5 (by decide)))
      refine And.intro ⟨by omega, Nat.le_of_ble_eq_true rfl, Nat.le_refl _, Nat.le_refl _⟩ ?_
      refine C204 (m := (uI m 142 0 (nI 0))) ?_
      refine And.intro (fun cr13 => ?_) (fun cr13 => False.elim (absurd ((⟨by decide, by decide⟩ : nI 0 ≤ nI 12 ∧ nI 12 ≤ nI 13)) (bi_eq0.mp cr13)))
      refine And.intro (Wdo_142 hW) (Exists.intro _ (And.intro (show va_rf (mR m 142 3) = .null by rw [hL0.1]; rfl) ?_))
      refine And.intro ⟨rfl, trivial, Nat.le_refl _, Nat.le_refl _⟩ ?_
      rw [show mI m 24 3 = nI 0 from hL0.2.2.2.2.2.2.1] at h2
      exact h2 _ (Rel_q hR)
    · -- case 13
      subst cz1
      refine And.intro (Wdo_0 hW) (Exists.intro _ (And.intro (Wdr_0_5 hW) ?_))
      refine And.intro (Wdo_24 hW) ?_
      refine And.intro ⟨rfl, trivial, Nat.le_refl _, Nat.le_refl _⟩ ?_
      refine h _ _ hW (fun Q2 h2 => ?_)
      refine ent (n := 176) z338 (by decide) rfl (by decide) (Nat.le_of_ble_eq_true rfl) (fun sc2 => ?_)
      refine And.intro (Wdo_142 hW) ?_
      refine And.intro (fun cr5 => ?_) (fun cr5 => False.elim (absurd cr5 (by decide)))
      refine And.intro ⟨by omega, Nat.le_of_ble_eq_true rfl, Nat.le_refl _, Nat.le_refl _⟩ ?_
      refine C204 (m := (uI m 142 0 (nI 0))) ?_
      refine And.intro (fun cr13 => ?_) (fun cr13 => False.elim (absurd ((⟨by decide, by decide⟩ : nI 0 ≤ nI 13 ∧ nI 13 ≤ nI 13)) (bi_eq0.mp cr13)))
      refine And.intro (Wdo_142 hW) (Exists.intro _ (And.intro (show va_rf (mR m 142 3) = .null by rw [hL0.1]; rfl) ?_))
      refine And.intro ⟨rfl, trivial, Nat.le_refl _, Nat.le_refl _⟩ ?_
      rw [show mI m 24 4 = nI 0 from hL0.2.2.2.2.2.2.2] at h2
      exact h2 _ (Rel_q hR)
    · -- case 14
      subst cz1
      refine And.intro (Wdo_0 hW) (Exists.intro _ (And.intro (Wdr_0_6 hW) ?_))
      refine And.intro (Wdo_87 hW) (Exists.intro _ (And.intro (Wdr_87_0 hW) ?_))
      refine And.intro (Wdo_88 hW) ?_
      refine And.intro ⟨rfl, trivial, Nat.le_refl _, Nat.le_refl _⟩ ?_
      refine h _ _ hW (fun Q2 h2 => ?_)
      refine ent (n := 176) z338 (by decide) rfl (by decide) (Nat.le_of_ble_eq_true rfl) (fun sc2 => ?_)
      refine And.intro (Wdo_142 hW) ?_
      refine And.intro (fun cr5 => False.elim (absurd cr5 (by decide))) (fun cr5 => ?_)
      refine And.intro (Wdo_142 hW) ?_
      refine And.intro ⟨rfl, trivial, Nat.le_refl _, Nat.le_refl _⟩ ?_
      obtain ⟨t9, -, p1, p2, -⟩ := hX.1
      rw [show mI (uI m 142 0 (nI 0)) 142 6 = mI m 88 1 from (congrFun uI_eq 6).trans (p2.trans p1.symm)]
      exact h2 _ (Rel_q hR)
  · skip
    obtain ⟨hq, w, u, ha0, ha1, hq0, hq1w, hw6, hu4, hwu, hgr⟩ := RL_q hq1
    obtain ⟨h158, hqz, hN, h3, ⟨T, hI⟩, hst, hla, hLQ, hSR⟩ := hq1
    have hq6 : mI m q 6 = nI n4r := hLQ.1.2.2.2.2.2.2.1.trans hn4
    have hq5 : mI m q 5 = nI n2r := hLQ.1.2.2.2.2.2.1.trans hn2
    refine ent (n := 166) z174 (by decide) rfl (by decide) (Nat.le_of_ble_eq_true rfl) (fun sc => ?_)
    refine And.intro (fun cz1 => ?_) (And.intro (fun cz1 => ?_) (And.intro (fun cz1 => ?_) (And.intro (fun cz1 => ?_) (And.intro (fun cz1 => ?_) (And.intro (fun cz1 => ?_) (And.intro (fun cz1 => ?_) (And.intro (fun cz1 => ?_) (And.intro (fun cz1 => ?_) (And.intro (fun cz1 => ?_) (And.intro (fun cz1 => ?_) (And.intro (fun cz1 => ?_) (And.intro (fun cz1 => ?_) (And.intro (fun cz1 => ?_) (And.intro (fun cz1 => ?_) (And.intro (fun cz1 => ?_) (trivial))))))))))))))))
    · -- case d
      refine And.intro ⟨rfl, trivial, Nat.le_refl _, Nat.le_refl _⟩ ?_
      refine h _ _ hW (fun Q2 h2 => ?_)
      refine ent (n := 176) z338 (by decide) rfl (by decide) (Nat.le_of_ble_eq_true rfl) (fun sc2 => ?_)
      refine And.intro (Wdo_142 hW) ?_
      refine And.intro (fun cr5 => ?_) (fun cr5 => False.elim (absurd cr5 (fun z9 => absurd (z9 ▸ cz1 : (nI 14).toInt < 0 ∨ (15 : Int) ≤ (nI 14).toInt) (by decide))))
      refine And.intro ⟨by omega, Nat.le_of_ble_eq_true rfl, Nat.le_refl _, Nat.le_refl _⟩ ?_
      refine C204 (m := (uI m 142 0 (nI 0))) ?_
      refine And.intro (fun cr13 => False.elim (absurd (bi_ne0.mp cr13) (fun z9 => sz_d cz1 z9))) (fun cr13 => ?_)
      refine And.intro ⟨rfl, trivial, Nat.le_refl _, Nat.le_refl _⟩ ?_
      exact h2 _ (Rel_q hR)
    · -- case 0
      subst cz1
      refine And.intro (Wdo_0 hW) (Exists.intro _ (And.intro ha ?_))
      refine And.intro (LWo_0 hL) ?_
      refine And.intro ⟨rfl, trivial, Nat.le_refl _, Nat.le_refl _⟩ ?_
      refine h _ _ hW (fun Q2 h2 => ?_)
      refine ent (n := 176) z338 (by decide) rfl (by decide) (Nat.le_of_ble_eq_true rfl) (fun sc2 => ?_)
      refine And.intro (Wdo_142 hW) ?_
      refine And.intro (fun cr5 => ?_) (fun cr5 => False.elim (absurd cr5 (by decide)))
      refine And.intro ⟨by omega, Nat.le_of_ble_eq_true rfl, Nat.le_refl _, Nat.le_refl _⟩ ?_
      refine C204 (m := (uI m 142 0 (nI 0))) ?_
      refine And.intro (fun cr13 => ?_) (fun cr13 => False.elim (absurd ((⟨by decide, by decide⟩ : nI 0 ≤ nI 0 ∧ nI 0 ≤ nI 13)) (bi_eq0.mp cr13)))
      refine And.intro (Wdo_142 hW) (Exists.intro _ (And.intro hq ?_))
      refine And.intro (fun cr22 => ?_) (And.intro (fun cr22 => ?_) (And.intro (fun cr22 => ?_) (And.intro (fun cr22 => ?_) (And.intro (fun cr22 => ?_) (And.intro (fun cr22 => ?_) (And.intro (fun cr22 => ?_) (And.intro (fun cr22 => ?_) (And.intro (fun cr22 => ?_) (And.intro (fun cr22 => ?_) (And.intro (fun cr22 => ?_) (And.intro (fun cr22 => ?_) (And.intro (fun cr22 => ?_) (And.intro (fun cr22 => ?_) (trivial))))))))))))))
      · -- case d
        exact absurd cr22 (by decide)
      · -- case 0
        refine And.intro (Wdo_142 hW) (Exists.intro _ (And.intro hq ?_))
        refine And.intro (NWo_0 hN) ?_
        rw [uI_ne (m := m) (a := 142) (b := q) (by omega)]
        refine And.intro ⟨rfl, trivial, Nat.le_refl _, Nat.le_refl _⟩ ?_
        rw [show mI m q 0 = mI m a 0 from hLQ.1.1]
        exact h2 _ (Rel_q hR)
      · -- case 1
        exact absurd cr22 (by decide)
      · -- case 2
        exact absurd cr22 (by decide)
      · -- case 3
        exact absurd cr22 (by decide)
      · -- case 4
        exact absurd cr22 (by decide)
      · -- case 5
        exact absurd cr22 (by decide)
      · -- case 6
        exact absurd cr22 (by decide)
      · -- case 7
        exact absurd cr22 (by decide)
      · -- case 8
        exact absurd cr22 (by decide)
      · -- case 9
        exact absurd cr22 (by decide)
      · -- case 10
        exact absurd cr22 (by decide)
      · -- case 11
        exact absurd cr22 (by decide)
      · -- case 12
        exact absurd cr22 (by decide)
    · -- case 1
      subst cz1
      refine And.intro (Wdo_0 hW) (Exists.intro _ (And.intro ha ?_))
      refine And.intro (LWo_0 hL) ?_
      refine And.intro ⟨rfl, trivial, Nat.le_refl _, Nat.le_refl _⟩ ?_
      refine h _ _ hW (fun Q2 h2 => ?_)
      refine ent (n := 176) z338 (by decide) rfl (by decide) (Nat.le_of_ble_eq_true rfl) (fun sc2 => ?_)
      refine And.intro (Wdo_142 hW) ?_
      refine And.intro (fun cr5 => ?_) (fun cr5 => False.elim (absurd cr5 (by decide)))
      refine And.intro ⟨by omega, Nat.le_of_ble_eq_true rfl, Nat.le_refl _, Nat.le_refl _⟩ ?_
      refine C204 (m := (uI m 142 0 (nI 0))) ?_
      refine And.intro (fun cr13 => ?_) (fun cr13 => False.elim (absurd ((⟨by decide, by decide⟩ : nI 0 ≤ nI 1 ∧ nI 1 ≤ nI 13)) (bi_eq0.mp cr13)))
      refine And.intro (Wdo_142 hW) (Exists.intro _ (And.intro hq ?_))
      refine And.intro (fun cr22 => ?_) (And.intro (fun cr22 => ?_) (And.intro (fun cr22 => ?_) (And.intro (fun cr22 => ?_) (And.intro (fun cr22 => ?_) (And.intro (fun cr22 => ?_) (And.intro (fun cr22 => ?_) (And.intro (fun cr22 => ?_) (And.intro (fun cr22 => ?_) (And.intro (fun cr22 => ?_) (And.intro (fun cr22 => ?_) (And.intro (fun cr22 => ?_) (And.intro (fun cr22 => ?_) (And.intro (fun cr22 => ?_) (trivial))))))))))))))
      · -- case d
        exact absurd cr22 (by decide)
      · -- case 0
        exact absurd cr22 (by decide)
      · -- case 1
        refine And.intro (Wdo_142 hW) (Exists.intro _ (And.intro hq ?_))
        refine And.intro (NWo_0 hN) ?_
        rw [uI_ne (m := m) (a := 142) (b := q) (by omega)]
        refine And.intro ⟨rfl, trivial, Nat.le_refl _, Nat.le_refl _⟩ ?_
        rw [show mI m q 1 = mI m a 1 from hLQ.1.2.1]
        exact h2 _ (Rel_q hR)
      · -- case 2
        exact absurd cr22 (by decide)
      · -- case 3
        exact absurd cr22 (by decide)
      · -- case 4
        exact absurd cr22 (by decide)
      · -- case 5
        exact absurd cr22 (by decide)
      · -- case 6
        exact absurd cr22 (by decide)
      · -- case 7
        exact absurd cr22 (by decide)
      · -- case 8
        exact absurd cr22 (by decide)
      · -- case 9
        exact absurd cr22 (by decide)
      · -- case 10
        exact absurd cr22 (by decide)
      · -- case 11
        exact absurd cr22 (by decide)
      · -- case 12
        exact absurd cr22 (by decide)
    · -- case 2
      subst cz1
      refine And.intro (Wdo_0 hW) (Exists.intro _ (And.intro ha ?_))
      refine And.intro (LWo_0 hL) ?_
      refine And.intro ⟨rfl, trivial, Nat.le_refl _, Nat.le_refl _⟩ ?_
      refine h _ _ hW (fun Q2 h2 => ?_)
      refine ent (n := 176) z338 (by decide) rfl (by decide) (Nat.le_of_ble_eq_true rfl) (fun sc2 => ?_)
      refine And.intro (Wdo_142 hW) ?_
      refine And.intro (fun cr5 => ?_) (fun cr5 => False.elim (absurd cr5 (by decide)))
      refine And.intro ⟨by omega, Nat.le_of_ble_eq_true rfl, Nat.le_refl _, Nat.le_refl _⟩ ?_
      refine C204 (m := (uI m 142 0 (nI 0))) ?_
      refine And.intro (fun cr13 => ?_) (fun cr13 => False.elim (absurd ((⟨by decide, by decide⟩ : nI 0 ≤ nI 2 ∧ nI 2 ≤ nI 13)) (bi_eq0.mp cr13)))
      refine And.intro (Wdo_142 hW) (Exists.intro _ (And.intro hq ?_))
      refine And.intro (fun cr22 => ?_) (And.intro (fun cr22 => ?_) (And.intro (fun cr22 => ?_) (And.intro (fun cr22 => ?_) (And.intro (fun cr22 => ?_) (And.intro (fun cr22 => ?_) (And.intro (fun cr22 => ?_) (And.intro (fun cr22 => ?_) (And.intro (fun cr22 => ?_) (And.intro (fun cr22 => ?_) (And.intro (fun cr22 => ?_) (And.intro (fun cr22 => ?_) (And.intro (fun cr22 => ?_) (And.intro (fun cr22 => ?_) (trivial))))))))))))))
      · -- case d
        exact absurd cr22 (by decide)
      · -- case 0
        exact absurd cr22 (by decide)
      · -- case 1
        exact absurd cr22 (by decide)
      · -- case 2
        refine And.intro (Wdo_142 hW) (Exists.intro _ (And.intro hq ?_))
        refine And.intro (NWo_0 hN) ?_
        rw [uI_ne (m := m) (a := 142) (b := q) (by omega)]
        refine And.intro ⟨rfl, trivial, Nat.le_refl _, Nat.le_refl _⟩ ?_
        rw [show mI m q 3 = mI m a 2 from hLQ.1.2.2.2.1]
        exact h2 _ (Rel_q hR)
      · -- case 3
        exact absurd cr22 (by decide)
      · -- case 4
        exact absurd cr22 (by decide)
      · -- case 5
        exact absurd cr22 (by decide)
      · -- case 6
        exact absurd cr22 (by decide)
      · -- case 7
        exact absurd cr22 (by decide)
      · -- case 8
        exact absurd cr22 (by decide)
      · -- case 9
        exact absurd cr22 (by decide)
      · -- case 10
        exact absurd cr22 (by decide)
      · -- case 11
        exact absurd cr22 (by decide)
      · -- case 12
        exact absurd cr22 (by decide)
    · -- case 3
      subst cz1
      refine And.intro (Wdo_0 hW) (Exists.intro _ (And.intro ha ?_))
      refine And.intro ⟨by omega, Nat.le_of_ble_eq_true rfl, Nat.le_refl _, Nat.le_refl _⟩ (And.intro (LWo_0 hL) ?_)
      refine C22 hL ?_
      rw [hn2]
      refine And.intro ⟨rfl, trivial, Nat.le_refl _, Nat.le_refl _⟩ ?_
      refine h _ _ hW (fun Q2 h2 => ?_)
      refine ent (n := 176) z338 (by decide) rfl (by decide) (Nat.le_of_ble_eq_true rfl) (fun sc2 => ?_)
      refine And.intro (Wdo_142 hW) ?_
      refine And.intro (fun cr5 => ?_) (fun cr5 => False.elim (absurd cr5 (by decide)))
      refine And.intro ⟨by omega, Nat.le_of_ble_eq_true rfl, Nat.le_refl _, Nat.le_refl _⟩ ?_
      refine C204 (m := (uI m 142 0 (nI 0))) ?_
      refine And.intro (fun cr13 => ?_) (fun cr13 => False.elim (absurd ((⟨by decide, by decide⟩ : nI 0 ≤ nI 3 ∧ nI 3 ≤ nI 13)) (bi_eq0.mp cr13)))
      refine And.intro (Wdo_142 hW) (Exists.intro _ (And.intro hq ?_))
      refine And.intro (fun cr22 => ?_) (And.intro (fun cr22 => ?_) (And.intro (fun cr22 => ?_) (And.intro (fun cr22 => ?_) (And.intro (fun cr22 => ?_) (And.intro (fun cr22 => ?_) (And.intro (fun cr22 => ?_) (And.intro (fun cr22 => ?_) (And.intro (fun cr22 => ?_) (And.intro (fun cr22 => ?_) (And.intro (fun cr22 => ?_) (And.intro (fun cr22 => ?_) (And.intro (fun cr22 => ?_) (And.intro (fun cr22 => ?_) (trivial))))))))))))))
      · -- case d
        exact absurd cr22 (by decide)
      · -- case 0
        exact absurd cr22 (by decide)
      · -- case 1
        exact absurd cr22 (by decide)
      · -- case 2
        exact absurd cr22 (by decide)
      · -- case 3
        refine And.intro (Wdo_142 hW) (Exists.intro _ (And.intro hq ?_))
        refine And.intro (NWo_0 hN) ?_
        rw [uI_ne (m := m) (a := 142) (b := q) (by omega)]
        rw [hq5]
        refine And.intro ⟨rfl, trivial, Nat.le_refl _, Nat.le_refl _⟩ ?_
        exact h2 _ (Rel_q hR)
      · -- case 4
        exact absurd cr22 (by decide)
      · -- case 5
        exact absurd cr22 (by decide)
      · -- case 6
        exact absurd cr22 (by decide)
      · -- case 7
        exact absurd cr22 (by decide)
      · -- case 8
        exact absurd cr22 (by decide)
      · -- case 9
        exact absurd cr22 (by decide)
      · -- case 10
        exact absurd cr22 (by decide)
      · -- case 11
        exact absurd cr22 (by decide)
      · -- case 12
        exact absurd cr22 (by decide)
    · -- case 4
      subst cz1
      refine And.intro (Wdo_0 hW) (Exists.intro _ (And.intro ha ?_))
      refine And.intro ⟨by omega, Nat.le_of_ble_eq_true rfl, Nat.le_refl _, Nat.le_refl _⟩ (And.intro (LWo_0 hL) ?_)
      refine C23 hL ?_
      rw [hn4]
      refine And.intro ⟨rfl, trivial, Nat.le_refl _, Nat.le_refl _⟩ ?_
      refine h _ _ hW (fun Q2 h2 => ?_)
      refine ent (n := 176) z338 (by decide) rfl (by decide) (Nat.le_of_ble_eq_true rfl) (fun sc2 => ?_)
      refine And.intro (Wdo_142 hW) ?_
      refine And.intro (fun cr5 => ?_) (fun cr5 => False.elim (absurd cr5 (by decide)))
      refine And.intro ⟨by omega, Nat.le_of_ble_eq_true rfl, Nat.le_refl _, Nat.le_refl _⟩ ?_
      refine C204 (m := (uI m 142 0 (nI 0))) ?_
      refine And.intro (fun cr13 => ?_) (fun cr13 => False.elim (absurd ((⟨by decide, by decide⟩ : nI 0 ≤ nI 4 ∧ nI 4 ≤ nI 13)) (bi_eq0.mp cr13)))
      refine And.intro (Wdo_142 hW) (Exists.intro _ (And.intro hq ?_))
      refine And.intro (fun cr22 => ?_) (And.intro (fun cr22 => ?_) (And.intro (fun cr22 => ?_) (And.intro (fun cr22 => ?_) (And.intro (fun cr22 => ?_) (And.intro (fun cr22 => ?_) (And.intro (fun cr22 => ?_) (And.intro (fun cr22 => ?_) (And.intro (fun cr22 => ?_) (And.intro (fun cr22 => ?_) (And.intro (fun cr22 => ?_) (And.intro (fun cr22 => ?_) (And.intro (fun cr22 => ?_) (And.intro (fun cr22 => ?_) (trivial))))))))))))))
      · -- case d
        exact absurd cr22 (by decide)
      · -- case 0
        exact absurd cr22 (by decide)
      · -- case 1
        exact absurd cr22 (by decide)
      · -- case 2
        exact absurd cr22 (by decide)
      · -- case 3
        exact absurd cr22 (by decide)
      · -- case 4
        refine And.intro (Wdo_142 hW) (Exists.intro _ (And.intro hq ?_))
        refine And.intro (NWo_0 hN) ?_
        rw [uI_ne (m := m) (a := 142) (b := q) (by omega)]
        rw [hq6]
        refine And.intro ⟨rfl, trivial, Nat.le_refl _, Nat.le_refl _⟩ ?_
        exact h2 _ (Rel_q hR)
      · -- case 5
        exact absurd cr22 (by decide)
      · -- case 6
        exact absurd cr22 (by decide)
      · -- case 7
        exact absurd cr22 (by decide)
      · -- case 8
        exact absurd cr22 (by decide)
      · -- case 9
        exact absurd cr22 (by decide)
      · -- case 10
        exact absurd cr22 (by decide)
      · -- case 11
        exact absurd cr22 (by decide)
      · -- case 12
        exact absurd cr22 (by decide)
    · -- case 5
      subst cz1
      refine And.intro (Wdo_0 hW) (Exists.intro _ (And.intro ha ?_))
      refine And.intro (LWo_0 hL) (Exists.intro _ (And.intro (LWr_0_4 hL) ?_))
      refine And.intro (LWi_1 hL (vi rfl (by omega))) ?_
      rw [nI_clamp (show 5 < 2 ^ 31 by omega)]
      refine And.intro ⟨rfl, trivial, Nat.le_refl _, Nat.le_refl _⟩ ?_
      refine h _ _ hW (fun Q2 h2 => ?_)
      refine ent (n := 176) z338 (by decide) rfl (by decide) (Nat.le_of_ble_eq_true rfl) (fun sc2 => ?_)
      refine And.intro (Wdo_142 hW) ?_
      refine And.intro (fun cr5 => ?_) (fun cr5 => False.elim (absurd cr5 (by decide)))
      refine And.intro ⟨by omega, Nat.le_of_ble_eq_true rfl, Nat.le_refl _, Nat.le_refl _⟩ ?_
      refine C204 (m := (uI m 142 0 (nI 0))) ?_
      refine And.intro (fun cr13 => ?_) (fun cr13 => False.elim (absurd ((⟨by decide, by decide⟩ : nI 0 ≤ nI 5 ∧ nI 5 ≤ nI 13)) (bi_eq0.mp cr13)))
      refine And.intro (Wdo_142 hW) (Exists.intro _ (And.intro hq ?_))
      refine And.intro (fun cr22 => ?_) (And.intro (fun cr22 => ?_) (And.intro (fun cr22 => ?_) (And.intro (fun cr22 => ?_) (And.intro (fun cr22 => ?_) (And.intro (fun cr22 => ?_) (And.intro (fun cr22 => ?_) (And.intro (fun cr22 => ?_) (And.intro (fun cr22 => ?_) (And.intro (fun cr22 => ?_) (And.intro (fun cr22 => ?_) (And.intro (fun cr22 => ?_) (And.intro (fun cr22 => ?_) (And.intro (fun cr22 => ?_) (trivial))))))))))))))
      · -- case d
        exact absurd cr22 (by decide)
      · -- case 0
        exact absurd cr22 (by decide)
      · -- case 1
        exact absurd cr22 (by decide)
      · -- case 2
        exact absurd cr22 (by decide)
      · -- case 3
        exact absurd cr22 (by decide)
      · -- case 4
        exact absurd cr22 (by decide)
      · -- case 5
        refine And.intro (Wdo_142 hW) (Exists.intro _ (And.intro hq ?_))
        refine And.intro (NWo_0 hN) ?_
        rw [uI_ne (m := m) (a := 142) (b := q) (by omega)]
        refine And.intro ⟨rfl, trivial, Nat.le_refl _, Nat.le_refl _⟩ ?_
        rw [show mI m q 7 = mI m (a + 1) 5 from hLQ.1.2.2.2.2.2.2.2.1]
        exact h2 _ (Rel_q hR)
      · -- case 6
        exact absurd cr22 (by decide)
      · -- case 7
        exact absurd cr22 (by decide)
      · -- case 8
        exact absurd cr22 (by decide)
      · -- case 9
        exact absurd cr22 (by decide)
      · -- case 10
        exact absurd cr22 (by decide)
      · -- case 11
        exact absurd cr22 (by decide)
      · -- case 12
        exact absurd cr22 (by decide)
    · -- case 6
      subst cz1
      refine And.intro (Wdo_0 hW) (Exists.intro _ (And.intro ha ?_))
      refine And.intro ⟨by omega, Nat.le_of_ble_eq_true rfl, Nat.le_refl _, Nat.le_refl _⟩ (And.intro (LWo_0 hL) ?_)
      refine C24 hL ?_
      rw [hn8]
      refine And.intro ⟨rfl, trivial, Nat.le_refl _, Nat.le_refl _⟩ ?_
      refine h _ _ hW (fun Q2 h2 => ?_)
      refine ent (n := 176) z338 (by decide) rfl (by decide) (Nat.le_of_ble_eq_true rfl) (fun sc2 => ?_)
      refine And.intro (Wdo_142 hW) ?_
      refine And.intro (fun cr5 => ?_) (fun cr5 => False.elim (absurd cr5 (by decide)))
      refine And.intro ⟨by omega, Nat.le_of_ble_eq_true rfl, Nat.le_refl _, Nat.le_refl _⟩ ?_
      refine C204 (m := (uI m 142 0 (nI 0))) ?_
      refine And.intro (fun cr13 => ?_) (fun cr13 => False.elim (absurd ((⟨by decide, by decide⟩ : nI 0 ≤ nI 6 ∧ nI 6 ≤ nI 13)) (bi_eq0.mp cr13)))
      refine And.intro (Wdo_142 hW) (Exists.intro _ (And.intro hq ?_))
      refine And.intro (fun cr22 => ?_) (And.intro (fun cr22 => ?_) (And.intro (fun cr22 => ?_) (And.intro (fun cr22 => ?_) (And.intro (fun cr22 => ?_) (And.intro (fun cr22 => ?_) (And.intro (fun cr22 => ?_) (And.intro (fun cr22 => ?_) (And.intro (fun cr22 => ?_) (And.intro (fun cr22 => ?_) (And.intro (fun cr22 => ?_) (And.intro (fun cr22 => ?_) (And.intro (fun cr22 => ?_) (And.intro (fun cr22 => ?_) (trivial))))))))))))))
      · -- case d
        exact absurd cr22 (by decide)
      · -- case 0
        exact absurd cr22 (by decide)
      · -- case 1
        exact absurd cr22 (by decide)
      · -- case 2
        exact absurd cr22 (by decide)
      · -- case 3
        exact absurd cr22 (by decide)
      · -- case 4
        exact absurd cr22 (by decide)
      · -- case 5
        exact absurd cr22 (by decide)
      · -- case 6
        refine And.intro (Wdo_142 hW) (Exists.intro _ (And.intro hq ?_))
        refine And.intro (NWo_0 hN) ?_
        rw [uI_ne (m := m) (a := 142) (b := q) (by omega)]
        refine And.intro ⟨rfl, trivial, Nat.le_refl _, Nat.le_refl _⟩ ?_
        rw [show mI m q 10 = nI n8r from hLQ.1.2.2.2.2.2.2.2.2.2.2.1.trans hn8]
        exact h2 _ (Rel_q hR)
      · -- case 7
        exact absurd cr22 (by decide)
      · -- case 8
        exact absurd cr22 (by decide)
      · -- case 9
        exact absurd cr22 (by decide)
      · -- case 10
        exact absurd cr22 (by decide)
      · -- case 11
        exact absurd cr22 (by decide)
      · -- case 12
        exact absurd cr22 (by decide)
    · -- case 7
      subst cz1
      refine And.intro (Wdo_0 hW) (Exists.intro _ (And.intro ha ?_))
      refine And.intro (LWo_0 hL) (Exists.intro _ (And.intro (LWr_0_4 hL) ?_))
      refine And.intro (LWi_1 hL (vi rfl (by omega))) ?_
      rw [nI_clamp (show 9 < 2 ^ 31 by omega)]
      refine And.intro ⟨rfl, trivial, Nat.le_refl _, Nat.le_refl _⟩ ?_
      refine h _ _ hW (fun Q2 h2 => ?_)
      refine ent (n := 176) z338 (by decide) rfl (by decide) (Nat.le_of_ble_eq_true rfl) (fun sc2 => ?_)
      refine And.intro (Wdo_142 hW) ?_
      refine And.intro (fun cr5 => ?_) (fun cr5 => False.elim (absurd cr5 (by decide)))
      refine And.intro ⟨by omega, Nat.le_of_ble_eq_true rfl, Nat.le_refl _, Nat.le_refl _⟩ ?_
      refine C204 (m := (uI m 142 0 (nI 0))) ?_
      refine And.intro (fun cr13 => ?_) (fun cr13 => False.elim (absurd ((⟨by decide, by decide⟩ : nI 0 ≤ nI 7 ∧ nI 7 ≤ nI 13)) (bi_eq0.mp cr13)))
      refine And.intro (Wdo_142 hW) (Exists.intro _ (And.intro hq ?_))
      refine And.intro (fun cr22 => ?_) (And.intro (fun cr22 => ?_) (And.intro (fun cr22 => ?_) (And.intro (fun cr22 => ?_) (And.intro (fun cr22 => ?_) (And.intro (fun cr22 => ?_) (And.intro (fun cr22 => ?_) (And.intro (fun cr22 => ?_) (And.intro (fun cr22 => ?_) (And.intro (fun cr22 => ?_) (And.intro (fun cr22 => ?_) (And.intro (fun cr22 => ?_) (And.intro (fun cr22 => ?_) (And.intro (fun cr22 => ?_) (trivial))))))))))))))
      · -- case d
        exact absurd cr22 (by decide)
      · -- case 0
        exact absurd cr22 (by decide)
      · -- case 1
        exact absurd cr22 (by decide)
      · -- case 2
        exact absurd cr22 (by decide)
      · -- case 3
        exact absurd cr22 (by decide)
      · -- case 4
        exact absurd cr22 (by decide)
      · -- case 5
        exact absurd cr22 (by decide)
      · -- case 6
        exact absurd cr22 (by decide)
      · -- case 7
        refine And.intro (Wdo_142 hW) (Exists.intro _ (And.intro hq ?_))
        refine And.intro (NWo_0 hN) ?_
        rw [uI_ne (m := m) (a := 142) (b := q) (by omega)]
        refine And.intro ⟨rfl, trivial, Nat.le_refl _, Nat.le_refl _⟩ ?_
        rw [show mI m q 11 = mI m (a + 1) 9 from hLQ.1.2.2.2.2.2.2.2.2.2.2.2.1]
        exact h2 _ (Rel_q hR)
      · -- case 8
        exact absurd cr22 (by decide)
      · -- case 9
        exact absurd cr22 (by decide)
      · -- case 10
        exact absurd cr22 (by decide)
      · -- case 11
        exact absurd cr22 (by decide)
      · -- case 12
        exact absurd cr22 (by decide)
    · -- case 8
      subst cz1
      refine And.intro (Wdo_0 hW) (Exists.intro _ (And.intro ha ?_))
      refine And.intro ⟨by omega, Nat.le_of_ble_eq_true rfl, Nat.le_refl _, Nat.le_refl _⟩ (And.intro (LWo_0 hL) ?_)
      refine C25 hL ?_
      rw [hn10]
      refine And.intro ⟨rfl, trivial, Nat.le_refl _, Nat.le_refl _⟩ ?_
      refine h _ _ hW (fun Q2 h2 => ?_)
      refine ent (n := 176) z338 (by decide) rfl (by decide) (Nat.le_of_ble_eq_true rfl) (fun sc2 => ?_)
      refine And.intro (Wdo_142 hW) ?_
      refine And.intro (fun cr5 => ?_) (fun cr5 => False.elim (absurd cr5 (by decide)))
      refine And.intro ⟨by omega, Nat.le_of_ble_eq_true rfl, Nat.le_refl _, Nat.le_refl _⟩ ?_
      refine C204 (m := (uI m 142 0 (nI 0))) ?_
      refine And.intro (fun cr13 => ?_) (fun cr13 => False.elim (absurd ((⟨by decide, by decide⟩ : nI 0 ≤ nI 8 ∧ nI 8 ≤ nI 13)) (bi_eq0.mp cr13)))
      refine And.intro (Wdo_142 hW) (Exists.intro _ (And.intro hq ?_))
      refine And.intro (fun cr22 => ?_) (And.intro (fun cr22 => ?_) (And.intro (fun cr22 => ?_) (And.intro (fun cr22 => ?_) (And.intro (fun cr22 => ?_) (And.intro (fun cr22 => ?_) (And.intro (fun cr22 => ?_) (And.intro (fun cr22 => ?_) (And.intro (fun cr22 => ?_) (And.intro (fun cr22 => ?_) (And.intro (fun cr22 => ?_) (And.intro (fun cr22 => ?_) (And.intro (fun cr22 => ?_) (And.intro (fun cr22 => ?_) (trivial))))))))))))))
      · -- case d
        exact absurd cr22 (by decide)
      · -- case 0
        exact absurd cr22 (by decide)
      · -- case 1
        exact absurd cr22 (by decide)
      · -- case 2
        exact absurd cr22 (by decide)
      · -- case 3
        exact absurd cr22 (by decide)
      · -- case 4
        exact absurd cr22 (by decide)
      · -- case 5
        exact absurd cr22 (by decide)
      · -- case 6
        exact absurd cr22 (by decide)
      · -- case 7
        exact absurd cr22 (by decide)
      · -- case 8
        refine And.intro (Wdo_142 hW) (Exists.intro _ (And.intro hq ?_))
        refine And.intro (NWo_0 hN) ?_
        rw [uI_ne (m := m) (a := 142) (b := q) (by omega)]
        refine And.intro ⟨rfl, trivial, Nat.le_refl _, Nat.le_refl _⟩ ?_
        rw [show mI m q 12 = nI n10r from hLQ.1.2.2.2.2.2.2.2.2.2.2.2.2.1.trans hn10]
        exact h2 _ (Rel_q hR)
      · -- case 9
        exact absurd cr22 (by decide)
      · -- case 10
        exact absurd cr22 (by decide)
      · -- case 11
        exact absurd cr22 (by decide)
      · -- case 12
        exact absurd cr22 (by decide)
    · -- case 9
      subst cz1
      refine And.intro (Wdo_0 hW) (Exists.intro _ (And.intro ha ?_))
      refine And.intro (LWo_0 hL) (Exists.intro _ (And.intro (LWr_0_4 hL) ?_))
      refine And.intro (LWi_1 hL (vi rfl (by omega))) ?_
      rw [nI_clamp (show 11 < 2 ^ 31 by omega)]
      refine And.intro ⟨rfl, trivial, Nat.le_refl _, Nat.le_refl _⟩ ?_
      refine h _ _ hW (fun Q2 h2 => ?_)
      refine ent (n := 176) z338 (by decide) rfl (by decide) (Nat.le_of_ble_eq_true rfl) (fun sc2 => ?_)
      refine And.intro (Wdo_142 hW) ?_
      refine And.intro (fun cr5 => ?_) (fun cr5 => False.elim (absurd cr5 (by decide)))
      refine And.intro ⟨by omega, Nat.le_of_ble_eq_true rfl, Nat.le_refl _, Nat.le_refl _⟩ ?_
      refine C204 (m := (uI m 142 0 (nI 0))) ?_
      refine And.intro (fun cr13 => ?_) (fun cr13 => False.elim (absurd ((⟨by decide, by decide⟩ : nI 0 ≤ nI 9 ∧ nI 9 ≤ nI 13)) (bi_eq0.mp cr13)))
      refine And.intro (Wdo_142 hW) (Exists.intro _ (And.intro hq ?_))
      refine And.intro (fun cr22 => ?_) (And.intro (fun cr22 => ?_) (And.intro (fun cr22 => ?_) (And.intro (fun cr22 => ?_) (And.intro (fun cr22 => ?_) (And.intro (fun cr22 => ?_) (And.intro (fun cr22 => ?_) (And.intro (fun cr22 => ?_) (And.intro (fun cr22 => ?_) (And.intro (fun cr22 => ?_) (And.intro (fun cr22 => ?_) (And.intro (fun cr22 => ?_) (And.intro (fun cr22 => ?_) (And.intro (fun cr22 => ?_) (trivial))))))))))))))
      · -- case d
        exact absurd cr22 (by decide)
      · -- case 0
        exact absurd cr22 (by decide)
      · -- case 1
        exact absurd cr22 (by decide)
      · -- case 2
        exact absurd cr22 (by decide)
      · -- case 3
        exact absurd cr22 (by decide)
      · -- case 4
        exact absurd cr22 (by decide)
      · -- case 5
        exact absurd cr22 (by decide)
      · -- case 6
        exact absurd cr22 (by decide)
      · -- case 7
        exact absurd cr22 (by decide)
      · -- case 8
        exact absurd cr22 (by decide)
      · -- case 9
        refine And.intro (Wdo_142 hW) (Exists.intro _ (And.intro hq ?_))
        refine And.intro (NWo_0 hN) ?_
        rw [uI_ne (m := m) (a := 142) (b := q) (by omega)]
        refine And.intro ⟨rfl, trivial, Nat.le_refl _, Nat.le_refl _⟩ ?_
        rw [show mI m q 13 = mI m (a + 1) 11 from hLQ.1.2.2.2.2.2.2.2.2.2.2.2.2.2.1]
        exact h2 _ (Rel_q hR)
      · -- case 10
        exact absurd cr22 (by decide)
      · -- case 11
        exact absurd cr22 (by decide)
      · -- case 12
        exact absurd cr22 (by decide)
    · -- case 10
      subst cz1
      refine And.intro (Wdo_0 hW) (Exists.intro _ (And.intro ha ?_))
      refine And.intro (LWo_0 hL) (Exists.intro _ (And.intro (LWr_0_4 hL) ?_))
      refine And.intro (LWi_1 hL (vi rfl (by omega))) ?_
      rw [nI_clamp (show 12 < 2 ^ 31 by omega)]
      refine And.intro ⟨rfl, trivial, Nat.le_refl _, Nat.le_refl _⟩ ?_
      refine h _ _ hW (fun Q2 h2 => ?_)
      refine ent (n := 176) z338 (by decide) rfl (by decide) (Nat.le_of_ble_eq_true rfl) (fun sc2 => ?_)
      refine And.intro (Wdo_142 hW) ?_
      refine And.intro (fun cr5 => ?_) (fun cr5 => False.elim (absurd cr5 (by decide)))
      refine And.intro ⟨by omega, Nat.le_of_ble_eq_true rfl, Nat.le_refl _, Nat.le_refl _⟩ ?_
      refine C204 (m := (uI m 142 0 (nI 0))) ?_
      refine And.intro (fun cr13 => ?_) (fun cr13 => False.elim (absurd ((⟨by decide, by decide⟩ : nI 0 ≤ nI 10 ∧ nI 10 ≤ nI 13)) (bi_eq0.mp cr13)))
      refine And.intro (Wdo_142 hW) (Exists.intro _ (And.intro hq ?_))
      refine And.intro (fun cr22 => ?_) (And.intro (fun cr22 => ?_) (And.intro (fun cr22 => ?_) (And.intro (fun cr22 => ?_) (And.intro (fun cr22 => ?_) (And.intro (fun cr22 => ?_) (And.intro (fun cr22 => ?_) (And.intro (fun cr22 => ?_) (And.intro (fun cr22 => ?_) (And.intro (fun cr22 => ?_) (And.intro (fun cr22 => ?_) (And.intro (fun cr22 => ?_) (And.intro (fun cr22 => ?_) (And.intro (fun cr22 => ?_) (trivial))))))))))))))
      · -- case d
        exact absurd cr22 (by decide)
      · -- case 0
        exact absurd cr22 (by decide)
      · -- case 1
        exact absurd cr22 (by decide)
      · -- case 2
        exact absurd cr22 (by decide)
      · -- case 3
        exact absurd cr22 (by decide)
      · -- case 4
        exact absurd cr22 (by decide)
      · -- case 5
        exact absurd cr22 (by decide)
      · -- case 6
        exact absurd cr22 (by decide)
      · -- case 7
        exact absurd cr22 (by decide)
      · -- case 8
        exact absurd cr22 (by decide)
      · -- case 9
        exact absurd cr22 (by decide)
      · -- case 10
        refine And.intro (Wdo_142 hW) (Exists.intro _ (And.intro hq ?_))
        refine And.intro (NWo_0 hN) ?_
        rw [uI_ne (m := m) (a := 142) (b := q) (by omega)]
        refine And.intro ⟨rfl, trivial, Nat.le_refl _, Nat.le_refl _⟩ ?_
        rw [show mI m q 14 = mI m (a + 1) 12 from hLQ.1.2.2.2.2.2.2.2.2.2.2.2.2.2.2]
        exact h2 _ (Rel_q hR)
      · -- case 11
        exact absurd cr22 (by decide)
      · -- case 12
        exact absurd cr22 (by decide)
    · -- case 11
      subst cz1
      refine And.intro (Wdo_0 hW) (Exists.intro _ (And.intro (Wdr_0_4 hW) ?_))
      refine And.intro (SWo_0 (Wd_S hW)) ?_
      refine And.intro ⟨rfl, trivial, Nat.le_refl _, Nat.le_refl _⟩ ?_
      refine h _ _ hW (fun Q2 h2 => ?_)
      refine ent (n := 176) z338 (by decide) rfl (by decide) (Nat.le_of_ble_eq_true rfl) (fun sc2 => ?_)
      refine And.intro (Wdo_142 hW) ?_
      refine And.intro (fun cr5 => ?_) (fun cr5 => False.elim (absurd cr5 (by decide)))
      refine And.intro ⟨by omega, Nat.le_of_ble_eq_true rfl, Nat.le_refl _, Nat.le_refl _⟩ ?_
      refine C204 (m := (uI m 142 0 (nI 0))) ?_
      refine And.intro (fun cr13 => ?_) (fun cr13 => False.elim (absurd ((⟨by decide, by decide⟩ : nI 0 ≤ nI 11 ∧ nI 11 ≤ nI 13)) (bi_eq0.mp cr13)))
      refine And.intro (Wdo_142 hW) (Exists.intro _ (And.intro hq ?_))
      refine And.intro (fun cr22 => ?_) (And.intro (fun cr22 => ?_) (And.intro (fun cr22 => ?_) (And.intro (fun cr22 => ?_) (And.intro (fun cr22 => ?_) (And.intro (fun cr22 => ?_) (And.intro (fun cr22 => ?_) (And.intro (fun cr22 => ?_) (And.intro (fun cr22 => ?_) (And.intro (fun cr22 => ?_) (And.intro (fun cr22 => ?_) (And.intro (fun cr22 => ?_) (And.intro (fun cr22 => ?_) (And.intro (fun cr22 => ?_) (trivial))))))))))))))
      · -- case d
        exact absurd cr22 (by decide)
      · -- case 0
        exact absurd cr22 (by decide)
      · -- case 1
        exact absurd cr22 (by decide)
      · -- case 2
        exact absurd cr22 (by decide)
      · -- case 3
        exact absurd cr22 (by decide)
      · -- case 4
        exact absurd cr22 (by decide)
      · -- case 5
        exact absurd cr22 (by decide)
      · -- case 6
        exact absurd cr22 (by decide)
      · -- case 7
        exact absurd cr22 (by decide)
      · -- case 8
        exact absurd cr22 (by decide)
      · -- case 9
        exact absurd cr22 (by decide)
      · -- case 10
        exact absurd cr22 (by decide)
      · -- case 11
        refine And.intro (Wdo_142 hW) (Exists.intro _ (And.intro (Wdr_142_18 hW) ?_))
        refine And.intro (Wdi_145 hW (vi rfl (by omega))) ?_
        rw [nI_clamp (show 47 < 2 ^ 31 by omega)]
        rw [uI_ne (m := m) (a := 142) (b := 145) (by omega)]
        refine And.intro ⟨rfl, trivial, Nat.le_refl _, Nat.le_refl _⟩ ?_
        rw [show mI m 145 47 = mI m 20 0 from hX.2.1.2.2.2.2]
        exact h2 _ (Rel_q hR)
      · -- case 12
        exact absurd cr22 (by decide)
    · -- case 12
      subst cz1
      refine And.intro (Wdo_0 hW) (Exists.intro _ (And.intro (Wdr_0_5 hW) ?_))
      refine And.intro (Wdo_24 hW) ?_
      refine And.intro ⟨rfl, trivial, Nat.le_refl _, Nat.le_refl _⟩ ?_
      refine h _ _ hW (fun Q2 h2 => ?_)
      refine ent (n := 176) z338 (by decide) rfl (by decide) (Nat.le_of_ble_eq_true rfl) (fun sc2 => ?_)
      refine And.intro (Wdo_142 hW) ?_
      refine And.intro (fun cr5 => ?_) (fun cr5 => False.elim (absurd cr5 (by decide)))
      refine And.intro ⟨by omega, Nat.le_of_ble_eq_true rfl, Nat.le_refl _, Nat.le_refl _⟩ ?_
      refine C204 (m := (uI m 142 0 (nI 0))) ?_
      refine And.intro (fun cr13 => ?_) (fun cr13 => False.elim (absurd ((⟨by decide, by decide⟩ : nI 0 ≤ nI 12 ∧ nI 12 ≤ nI 13)) (bi_eq0.mp cr13)))
      refine And.intro (Wdo_142 hW) (Exists.intro _ (And.intro hq ?_))
      refine And.intro (fun cr22 => ?_) (And.intro (fun cr22 => ?_) (And.intro (fun cr22 => ?_) (And.intro (fun cr22 => ?_) (And.intro (fun cr22 => ?_) (And.intro (fun cr22 => ?_) (And.intro (fun cr22 => ?_) (And.intro (fun cr22 => ?_) (And.intro (fun cr22 => ?_) (And.intro (fun cr22 => ?_) (And.intro (fun cr22 => ?_) (And.intro (fun cr22 => ?_) (And.intro (fun cr22 => ?_) (And.intro (fun cr22 => ?_) (trivial))))))))))))))
      · -- case d
        exact absurd cr22 (by decide)
      · -- case 0
        exact absurd cr22 (by decide)
      · -- case 1
        exact absurd cr22 (by decide)
      · -- case 2
        exact absurd cr22 (by decide)
      · -- case 3
        exact absurd cr22 (by decide)
      · -- case 4
        exact absurd cr22 (by decide)
      · -- case 5
        exact absurd cr22 (by decide)
      · -- case 6
        exact absurd cr22 (by decide)
      · -- case 7
        exact absurd cr22 (by decide)
      · -- case 8
        exact absurd cr22 (by decide)
      · -- case 9
        exact absurd cr22 (by decide)
      · -- case 10
        exact absurd cr22 (by decide)
      · -- case 11
        exact absurd cr22 (by decide)
      · -- case 12
        refine And.intro (Wdo_142 hW) ?_
        refine And.intro ⟨rfl, trivial, Nat.le_refl _, Nat.le_refl _⟩ ?_
        obtain ⟨f9, w9, y9, -, -, -, -, p5, p6, p7, p8, -, -⟩ := hX.2.2.2.1
        rw [show mI (uI m 142 0 (nI 0)) 142 21 = mI m 24 3 from (congrFun uI_eq 21).trans (p7.trans p5.symm)]
        exact h2 _ (Rel_q hR)
    · -- case 13
      subst cz1
      refine And.intro (Wdo_0 hW) (Exists.intro _ (And.intro (Wdr_0_5 hW) ?_))
      refine And.intro (Wdo_24 hW) ?_
      refine And.intro ⟨rfl, trivial, Nat.le_refl _, Nat.le_refl _⟩ ?_
      refine h _ _ hW (fun Q2 h2 => ?_)
      refine ent (n := 176) z338 (by decide) rfl (by decide) (Nat.le_of_ble_eq_true rfl) (fun sc2 => ?_)
      refine And.intro (Wdo_142 hW) ?_
      refine And.intro (fun cr5 => ?_) (fun cr5 => False.elim (absurd cr5 (by decide)))
      refine And.intro ⟨by omega, Nat.le_of_ble_eq_true rfl, Nat.le_refl _, Nat.le_refl _⟩ ?_
      refine C204 (m := (uI m 142 0 (nI 0))) ?_
      refine And.intro (fun cr13 => ?_) (fun cr13 => False.elim (absurd ((⟨by decide, by decide⟩ : nI 0 ≤ nI 13 ∧ nI 13 ≤ nI 13)) (bi_eq0.mp cr13)))
      refine And.intro (Wdo_142 hW) (Exists.intro _ (And.intro hq ?_))
      refine And.intro (fun cr22 => ?_) (And.intro (fun cr22 => ?_) (And.intro (fun cr22 => ?_) (And.intro (fun cr22 => ?_) (And.intro (fun cr22 => ?_) (And.intro (fun cr22 => ?_) (And.intro (fun cr22 => ?_) (And.intro (fun cr22 => ?_) (And.intro (fun cr22 => ?_) (And.intro (fun cr22 => ?_) (And.intro (fun cr22 => ?_) (And.intro (fun cr22 => ?_) (And.intro (fun cr22 => ?_) (And.intro (fun cr22 => ?_) (trivial))))))))))))))
      · -- case d
        refine And.intro (Wdo_142 hW) ?_
        refine And.intro ⟨rfl, trivial, Nat.le_refl _, Nat.le_refl _⟩ ?_
        obtain ⟨f9, w9, y9, -, -, -, -, p5, p6, p7, p8, -, -⟩ := hX.2.2.2.1
        rw [show mI (uI m 142 0 (nI 0)) 142 22 = mI m 24 4 from (congrFun uI_eq 22).trans (p8.trans p6.symm)]
        exact h2 _ (Rel_q hR)
      · -- case 0
        exact absurd cr22 (by decide)
      · -- case 1
        exact absurd cr22 (by decide)
      · -- case 2
        exact absurd cr22 (by decide)
      · -- case 3
        exact absurd cr22 (by decide)
      · -- case 4
        exact absurd cr22 (by decide)
      · -- case 5
        exact absurd cr22 (by decide)
      · -- case 6
        exact absurd cr22 (by decide)
      · -- case 7
        exact absurd cr22 (by decide)
      · -- case 8
        exact absurd cr22 (by decide)
      · -- case 9
        exact absurd cr22 (by decide)
      · -- case 10
        exact absurd cr22 (by decide)
      · -- case 11
        exact absurd cr22 (by decide)
      · -- case 12
        exact absurd cr22 (by decide)
    · -- case 14
      subst cz1
      refine And.intro (Wdo_0 hW) (Exists.intro _ (And.intro (Wdr_0_6 hW) ?_))
      refine And.intro (Wdo_87 hW) (Exists.intro _ (And.intro (Wdr_87_0 hW) ?_))
      refine And.intro (Wdo_88 hW) ?_
      refine And.intro ⟨rfl, trivial, Nat.le_refl _, Nat.le_refl _⟩ ?_
      refine h _ _ hW (fun Q2 h2 => ?_)
      refine ent (n := 176) z338 (by decide) rfl (by decide) (Nat.le_of_ble_eq_true rfl) (fun sc2 => ?_)
      refine And.intro (Wdo_142 hW) ?_
      refine And.intro (fun cr5 => False.elim (absurd cr5 (by decide))) (fun cr5 => ?_)
      refine And.intro (Wdo_142 hW) ?_
      refine And.intro ⟨rfl, trivial, Nat.le_refl _, Nat.le_refl _⟩ ?_
      obtain ⟨t9, -, p1, p2, -⟩ := hX.1
      rw [show mI (uI m 142 0 (nI 0)) 142 6 = mI m 88 1 from (congrFun uI_eq 6).trans (p2.trans p1.symm)]
      exact h2 _ (Rel_q hR)
theorem wi_n {x : Int32} {n : Nat} (hn : n < 1000) : (nI 0 ≤ x ∧ x ≤ nI n - nI 1) ↔ iR x n := by
  rcases Nat.eq_zero_or_pos n with z | z
  · rw [z]
    refine ⟨fun h => ?_, fun h => absurd (iR_p h) (by decide)⟩
    have h0 : (nI 0).toInt = 0 := by decide
    have h1 : (nI 0 - nI 1).toInt = -1 := by decide
    rw [Int32.le_iff_toInt_le, Int32.le_iff_toInt_le, h0, h1] at h
    omega
  · rw [pk_sub z, irq (by omega)]
    have e : (nI (n - 1)).toInt = ((n - 1 : Nat) : Int) := nI_toInt (by omega)
    have ez2 : (nI n).toInt = (n : Int) := nI_toInt (by omega)
    have h0 : (nI 0).toInt = 0 := by decide
    have hz : (0 : Int32).toInt = 0 := by decide
    rw [Int32.le_iff_toInt_le, Int32.le_iff_toInt_le, Int32.lt_iff_toInt_lt, Int32.le_iff_toInt_le, e, ez2, h0, hz]
    omega
theorem P_soil {d : Nat} {m : Mm} {Q : Option Value → Mm → Prop} {z : Nat} {x y : Int32} (hd : 16 ≤ d) (hR : Rel z m) (h : ∀ (r : Int32) m1, Wd m1.2.2 → (∀ Q2 : Option Value → Mm → Prop, (∀ m2, Rel z m2 → Q2 (some (.int r)) m2) → Cc d 0 0 255 [.ref 142, .int x, .int y] m1 Q2) → Q (some (.int r)) m1) : Cc d 0 0 124 [.ref 0, .int x, .int y] m Q := by
  obtain ⟨hW, hz, hS, a, b, hA, hX⟩ := id hR
  obtain ⟨hL, hLb, hab, ha, hb⟩ := RelA_L hW hA
  obtain ⟨n2r, hn2, bn2, ln2⟩ := RL_n (s := 2) (f := 5) hX.2.2.1 (by decide) (fun _ _ h => h.2.2.2.2.2.1)
  change n2r ≤ 6 at bn2
  obtain ⟨n4r, hn4, bn4, ln4⟩ := RL_n (s := 4) (f := 6) hX.2.2.1 (by decide) (fun _ _ h => h.2.2.2.2.2.2.1)
  change n4r ≤ 6 at bn4
  obtain ⟨n8r, hn8, bn8, ln8⟩ := RL_n (s := 8) (f := 10) hX.2.2.1 (by decide) (fun _ _ h => h.2.2.2.2.2.2.2.2.2.2.1)
  change n8r ≤ 8 at bn8
  obtain ⟨n10r, hn10, bn10, ln10⟩ := RL_n (s := 10) (f := 12) hX.2.2.1 (by decide) (fun _ _ h => h.2.2.2.2.2.2.2.2.2.2.2.2.1)
  change n10r ≤ 4 at bn10
  rcases RL_st hX.2.2.1 with ⟨hL0, hst0⟩ | ⟨q, hq1, hst0⟩
  · skip
    refine ent (n := 82) z124 (by decide) rfl (by decide) (Nat.le_of_ble_eq_true rfl) (fun sc => ?_)
    refine And.intro (fun cz1 => ?_) (fun cz1 => ?_)
    · -- 1 taken: x < 0
      refine And.intro ⟨by omega, Nat.le_of_ble_eq_true rfl, Nat.le_refl _, Nat.le_refl _⟩ (And.intro (Wdo_0 hW) ?_)
      refine C176 hW ?_
      refine And.intro ⟨rfl, trivial, Nat.le_refl _, Nat.le_refl _⟩ ?_
      refine h _ _ hW (fun Q2 h2 => ?_)
      refine ent (n := 104) z255 (by decide) rfl (by decide) (Nat.le_of_ble_eq_true rfl) (fun sc2 => ?_)
      refine And.intro (Wdo_142 hW) ?_
      refine And.intro (Wdo_142 hW) (Exists.intro _ (And.intro (show va_rf (mR m 142 3) = .null by rw [hL0.1]; rfl) ?_))
      refine And.intro ⟨by omega, Nat.le_of_ble_eq_true rfl, Nat.le_refl _, Nat.le_refl _⟩ (And.intro (Wdo_142 hW) ?_)
      refine C200 (m := (uI (uI m 0 0 (nI 1)) 142 0 (nI 0))) hW ?_
      refine And.intro ⟨rfl, trivial, Nat.le_refl _, Nat.le_refl _⟩ ?_
      exact h2 _ (Rel_ans hR (by decide))
    · -- 1 not: ¬ x < 0
      refine And.intro (Wdo_0 hW) (Exists.intro _ (And.intro ha ?_))
      refine And.intro (LWo_0 hL) ?_
      rw [hL0.2.1]
      refine And.intro (fun cz6 => ?_) (fun cz6 => ?_)
      · -- 6 taken: nI 0 ≤ x
        refine And.intro ⟨by omega, Nat.le_of_ble_eq_true rfl, Nat.le_refl _, Nat.le_refl _⟩ (And.intro (Wdo_0 hW) ?_)
        refine C176 hW ?_
        refine And.intro ⟨rfl, trivial, Nat.le_refl _, Nat.le_refl _⟩ ?_
        refine h _ _ hW (fun Q2 h2 => ?_)
        refine ent (n := 104) z255 (by decide) rfl (by decide) (Nat.le_of_ble_eq_true rfl) (fun sc2 => ?_)
        refine And.intro (Wdo_142 hW) ?_
        refine And.intro (Wdo_142 hW) (Exists.intro _ (And.intro (show va_rf (mR m 142 3) = .null by rw [hL0.1]; rfl) ?_))
        refine And.intro ⟨by omega, Nat.le_of_ble_eq_true rfl, Nat.le_refl _, Nat.le_refl _⟩ (And.intro (Wdo_142 hW) ?_)
        refine C200 (m := (uI (uI m 0 0 (nI 1)) 142 0 (nI 0))) hW ?_
        refine And.intro ⟨rfl, trivial, Nat.le_refl _, Nat.le_refl _⟩ ?_
        exact h2 _ (Rel_ans hR (by decide))
      · -- 6 not: ¬ nI 0 ≤ x
        exact absurd (Int32.not_lt.mp cz1) cz6
  · skip
    obtain ⟨hq, w, u, ha0, ha1, hq0, hq1w, hw6, hu4, hwu, hgr⟩ := RL_q hq1
    obtain ⟨h158, hqz, hN, h3, ⟨T, hI⟩, hst, hla, hLQ, hSR⟩ := hq1
    have hq6 : mI m q 6 = nI n4r := hLQ.1.2.2.2.2.2.2.1.trans hn4
    have hq5 : mI m q 5 = nI n2r := hLQ.1.2.2.2.2.2.1.trans hn2
    refine ent (n := 82) z124 (by decide) rfl (by decide) (Nat.le_of_ble_eq_true rfl) (fun sc => ?_)
    refine And.intro (fun cz1 => ?_) (fun cz1 => ?_)
    · -- 1 taken: x < 0
      refine And.intro ⟨by omega, Nat.le_of_ble_eq_true rfl, Nat.le_refl _, Nat.le_refl _⟩ (And.intro (Wdo_0 hW) ?_)
      refine C176 hW ?_
      refine And.intro ⟨rfl, trivial, Nat.le_refl _, Nat.le_refl _⟩ ?_
      refine h _ _ hW (fun Q2 h2 => ?_)
      refine ent (n := 104) z255 (by decide) rfl (by decide) (Nat.le_of_ble_eq_true rfl) (fun sc2 => ?_)
      refine And.intro (Wdo_142 hW) ?_
      refine And.intro (Wdo_142 hW) (Exists.intro _ (And.intro hq ?_))
      refine And.intro (Wdo_142 hW) (Exists.intro _ (And.intro hq ?_))
      refine And.intro (NWo_0 hN) ?_
      rw [uI_ne (m := (uI m 0 0 (nI 1))) (a := 142) (b := q) (by omega)]
      rw [uI_ne (m := m) (a := 0) (b := q) (by omega)]
      rw [hq0]
      refine And.intro ⟨by omega, Nat.le_of_ble_eq_true rfl, Nat.le_refl _, Nat.le_refl _⟩ ?_
      refine C204 (m := (uI (uI m 0 0 (nI 1)) 142 0 (nI 0))) ?_
      rw [bi_c (wi_n (n := w) (by omega))]
      refine And.intro (fun cr14 => ?_) (fun cr14 => False.elim (absurd (bi_ne0.mp cr14) (fun z9 => ((irq (by omega)).mp z9).1 cz1)))
      refine And.intro ⟨by omega, Nat.le_of_ble_eq_true rfl, Nat.le_refl _, Nat.le_refl _⟩ (And.intro (Wdo_142 hW) ?_)
      refine C200 (m := (uI (uI m 0 0 (nI 1)) 142 0 (nI 0))) hW ?_
      refine And.intro ⟨rfl, trivial, Nat.le_refl _, Nat.le_refl _⟩ ?_
      exact h2 _ (Rel_ans hR (by decide))
    · -- 1 not: ¬ x < 0
      refine And.intro (Wdo_0 hW) (Exists.intro _ (And.intro ha ?_))
      refine And.intro (LWo_0 hL) ?_
      rw [ha0]
      refine And.intro (fun cz6 => ?_) (fun cz6 => ?_)
      · -- 6 taken: nI w ≤ x
        refine And.intro ⟨by omega, Nat.le_of_ble_eq_true rfl, Nat.le_refl _, Nat.le_refl _⟩ (And.intro (Wdo_0 hW) ?_)
        refine C176 hW ?_
        refine And.intro ⟨rfl, trivial, Nat.le_refl _, Nat.le_refl _⟩ ?_
        refine h _ _ hW (fun Q2 h2 => ?_)
        refine ent (n := 104) z255 (by decide) rfl (by decide) (Nat.le_of_ble_eq_true rfl) (fun sc2 => ?_)
        refine And.intro (Wdo_142 hW) ?_
        refine And.intro (Wdo_142 hW) (Exists.intro _ (And.intro hq ?_))
        refine And.intro (Wdo_142 hW) (Exists.intro _ (And.intro hq ?_))
        refine And.intro (NWo_0 hN) ?_
        rw [uI_ne (m := (uI m 0 0 (nI 1))) (a := 142) (b := q) (by omega)]
        rw [uI_ne (m := m) (a := 0) (b := q) (by omega)]
        rw [hq0]
        refine And.intro ⟨by omega, Nat.le_of_ble_eq_true rfl, Nat.le_refl _, Nat.le_refl _⟩ ?_
        refine C204 (m := (uI (uI m 0 0 (nI 1)) 142 0 (nI 0))) ?_
        rw [bi_c (wi_n (n := w) (by omega))]
        refine And.intro (fun cr14 => ?_) (fun cr14 => False.elim (absurd (bi_ne0.mp cr14) (fun z9 => ((irq (by omega)).mp z9).2 cz6)))
        refine And.intro ⟨by omega, Nat.le_of_ble_eq_true rfl, Nat.le_refl _, Nat.le_refl _⟩ (And.intro (Wdo_142 hW) ?_)
        refine C200 (m := (uI (uI m 0 0 (nI 1)) 142 0 (nI 0))) hW ?_
        refine And.intro ⟨rfl, trivial, Nat.le_refl _, Nat.le_refl _⟩ ?_
        exact h2 _ (Rel_ans hR (by decide))
      · -- 6 not: ¬ nI w ≤ x
        refine And.intro (fun cz8 => ?_) (fun cz8 => ?_)
        · -- 8 taken: y < 0
          refine And.intro ⟨by omega, Nat.le_of_ble_eq_true rfl, Nat.le_refl _, Nat.le_refl _⟩ (And.intro (Wdo_0 hW) ?_)
          refine C176 hW ?_
          refine And.intro ⟨rfl, trivial, Nat.le_refl _, Nat.le_refl _⟩ ?_
          refine h _ _ hW (fun Q2 h2 => ?_)
          refine ent (n := 104) z255 (by decide) rfl (by decide) (Nat.le_of_ble_eq_true rfl) (fun sc2 => ?_)
          refine And.intro (Wdo_142 hW) ?_
          refine And.intro (Wdo_142 hW) (Exists.intro _ (And.intro hq ?_))
          refine And.intro (Wdo_142 hW) (Exists.intro _ (And.intro hq ?_))
          refine And.intro (NWo_0 hN) ?_
          rw [uI_ne (m := (uI m 0 0 (nI 1))) (a := 142) (b := q) (by omega)]
          rw [uI_ne (m := m) (a := 0) (b := q) (by omega)]
          rw [hq0]
          refine And.intro ⟨by omega, Nat.le_of_ble_eq_true rfl, Nat.le_refl _, Nat.le_refl _⟩ ?_
          refine C204 (m := (uI (uI m 0 0 (nI 1)) 142 0 (nI 0))) ?_
          rw [bi_c (wi_n (n := w) (by omega))]
          refine And.intro (fun cr14 => False.elim (absurd ((irq (by omega)).mpr ⟨cz1, cz6⟩) (bi_eq0.mp cr14))) (fun cr14 => ?_)
          refine And.intro (Wdo_142 hW) (Exists.intro _ (And.intro hq ?_))
          refine And.intro (NWo_0 hN) ?_
          rw [uI_ne (m := (uI m 0 0 (nI 1))) (a := 142) (b := q) (by omega)]
          rw [uI_ne (m := m) (a := 0) (b := q) (by omega)]
          rw [hq1w]
          refine And.intro ⟨by omega, Nat.le_of_ble_eq_true rfl, Nat.le_refl _, Nat.le_refl _⟩ ?_
          refine C204 (m := (uI (uI m 0 0 (nI 1)) 142 0 (nI 0))) ?_
          rw [bi_c (wi_n (n := u) (by omega))]
          refine And.intro (fun cr23 => ?_) (fun cr23 => False.elim (absurd (bi_ne0.mp cr23) (fun z9 => ((irq (by omega)).mp z9).1 cz8)))
          refine And.intro ⟨by omega, Nat.le_of_ble_eq_true rfl, Nat.le_refl _, Nat.le_refl _⟩ (And.intro (Wdo_142 hW) ?_)
          refine C200 (m := (uI (uI m 0 0 (nI 1)) 142 0 (nI 0))) hW ?_
          refine And.intro ⟨rfl, trivial, Nat.le_refl _, Nat.le_refl _⟩ ?_
          exact h2 _ (Rel_ans hR (by decide))
        · -- 8 not: ¬ y < 0
          refine And.intro (Wdo_0 hW) (Exists.intro _ (And.intro ha ?_))
          refine And.intro (LWo_0 hL) ?_
          rw [ha1]
          refine And.intro (fun cz13 => ?_) (fun cz13 => ?_)
          · -- 13 taken: y < nI u
            have hsx : iR x w := (irq (by omega)).mpr ⟨cz1, cz6⟩
            have hsy : iR y u := (irq (by omega)).mpr ⟨cz8, Int32.not_le.mpr cz13⟩
            obtain ⟨i9, hi9, rfl⟩ := id hsx
            obtain ⟨j9, hj9, rfl⟩ := id hsy
            have hij : w * j9 + i9 < w * u := by
              have : w * (j9 + 1) ≤ w * u := Nat.mul_le_mul_left _ hj9
              rw [Nat.mul_succ] at this
              omega
            refine And.intro (Wdo_0 hW) (Exists.intro _ (And.intro ha ?_))
            refine And.intro (Wdo_0 hW) (Exists.intro _ (And.intro ha ?_))
            refine And.intro (LWo_0 hL) ?_
            rw [ha0]
            refine And.intro ⟨by omega, Nat.le_of_ble_eq_true rfl, Nat.le_refl _, Nat.le_refl _⟩ (And.intro (LWo_0 hL) ?_)
            rw [show (nI w * nI j9) + nI i9 = nI (w * j9 + i9) from by simp only [nI_add, pk_mul]]
            refine C26 (c := w * j9 + i9) hL (by omega) ?_
            refine And.intro ⟨by omega, Nat.le_of_ble_eq_true rfl, Nat.le_refl _, Nat.le_refl _⟩ (And.intro (Wdo_0 hW) ?_)
            refine C177 hW ?_
            refine And.intro ⟨rfl, trivial, Nat.le_refl _, Nat.le_refl _⟩ ?_
            refine h _ _ hW (fun Q2 h2 => ?_)
            refine ent (n := 104) z255 (by decide) rfl (by decide) (Nat.le_of_ble_eq_true rfl) (fun sc2 => ?_)
            refine And.intro (Wdo_142 hW) ?_
            refine And.intro (Wdo_142 hW) (Exists.intro _ (And.intro hq ?_))
            refine And.intro (Wdo_142 hW) (Exists.intro _ (And.intro hq ?_))
            refine And.intro (NWo_0 hN) ?_
            rw [uI_ne (m := (uI m 0 0 (nI 0))) (a := 142) (b := q) (by omega)]
            rw [uI_ne (m := m) (a := 0) (b := q) (by omega)]
            rw [hq0]
            refine And.intro ⟨by omega, Nat.le_of_ble_eq_true rfl, Nat.le_refl _, Nat.le_refl _⟩ ?_
            refine C204 (m := (uI (uI m 0 0 (nI 0)) 142 0 (nI 0))) ?_
            rw [bi_c (wi_n (n := w) (by omega))]
            refine And.intro (fun cr14 => False.elim (absurd (hsx) (bi_eq0.mp cr14))) (fun cr14 => ?_)
            refine And.intro (Wdo_142 hW) (Exists.intro _ (And.intro hq ?_))
            refine And.intro (NWo_0 hN) ?_
            rw [uI_ne (m := (uI m 0 0 (nI 0))) (a := 142) (b := q) (by omega)]
            rw [uI_ne (m := m) (a := 0) (b := q) (by omega)]
            rw [hq1w]
            refine And.intro ⟨by omega, Nat.le_of_ble_eq_true rfl, Nat.le_refl _, Nat.le_refl _⟩ ?_
            refine C204 (m := (uI (uI m 0 0 (nI 0)) 142 0 (nI 0))) ?_
            rw [bi_c (wi_n (n := u) (by omega))]
            refine And.intro (fun cr23 => False.elim (absurd (hsy) (bi_eq0.mp cr23))) (fun cr23 => ?_)
            refine And.intro (Wdo_142 hW) (Exists.intro _ (And.intro hq ?_))
            refine And.intro (NWo_0 hN) (Exists.intro _ (And.intro (NWr_0_17 hN) ?_))
            refine And.intro (Wdo_142 hW) (Exists.intro _ (And.intro hq ?_))
            refine And.intro (NWo_0 hN) ?_
            rw [uI_ne (m := (uI m 0 0 (nI 0))) (a := 142) (b := q) (by omega)]
            rw [uI_ne (m := m) (a := 0) (b := q) (by omega)]
            rw [hq0]
            have er35 : (nI w * nI j9) + nI i9 = nI (w * j9 + i9) := by simp only [nI_add, pk_mul]
            refine And.intro (NWi_1 hN (vi er35 (by omega))) ?_
            rw [vc er35 (by omega)]
            rw [uI_ne (m := (uI m 0 0 (nI 0))) (a := 142) (b := (q + 1)) (by omega)]
            rw [uI_ne (m := m) (a := 0) (b := (q + 1)) (by omega)]
            refine And.intro ⟨by omega, Nat.le_of_ble_eq_true rfl, Nat.le_refl _, Nat.le_refl _⟩ (And.intro (Wdo_142 hW) ?_)
            refine C202 (m := (uI (uI m 0 0 (nI 0)) 142 0 (nI 0))) hW ?_
            refine And.intro ⟨rfl, trivial, Nat.le_refl _, Nat.le_refl _⟩ ?_
            rw [show mI m (q + 1) (w * j9 + i9) = mI m (a + 2) (w * j9 + i9) from hLQ.2.2.1 _ (by omega)]
            exact h2 _ (Rel_ans hR (by decide))
          · -- 13 not: ¬ y < nI u
            refine And.intro ⟨by omega, Nat.le_of_ble_eq_true rfl, Nat.le_refl _, Nat.le_refl _⟩ (And.intro (Wdo_0 hW) ?_)
            refine C176 hW ?_
            refine And.intro ⟨rfl, trivial, Nat.le_refl _, Nat.le_refl _⟩ ?_
            refine h _ _ hW (fun Q2 h2 => ?_)
            refine ent (n := 104) z255 (by decide) rfl (by decide) (Nat.le_of_ble_eq_true rfl) (fun sc2 => ?_)
            refine And.intro (Wdo_142 hW) ?_
            refine And.intro (Wdo_142 hW) (Exists.intro _ (And.intro hq ?_))
            refine And.intro (Wdo_142 hW) (Exists.intro _ (And.intro hq ?_))
            refine And.intro (NWo_0 hN) ?_
            rw [uI_ne (m := (uI m 0 0 (nI 1))) (a := 142) (b := q) (by omega)]
            rw [uI_ne (m := m) (a := 0) (b := q) (by omega)]
            rw [hq0]
            refine And.intro ⟨by omega, Nat.le_of_ble_eq_true rfl, Nat.le_refl _, Nat.le_refl _⟩ ?_
            refine C204 (m := (uI (uI m 0 0 (nI 1)) 142 0 (nI 0))) ?_
            rw [bi_c (wi_n (n := w) (by omega))]
            refine And.intro (fun cr14 => False.elim (absurd ((irq (by omega)).mpr ⟨cz1, cz6⟩) (bi_eq0.mp cr14))) (fun cr14 => ?_)
            refine And.intro (Wdo_142 hW) (Exists.intro _ (And.intro hq ?_))
            refine And.intro (NWo_0 hN) ?_
            rw [uI_ne (m := (uI m 0 0 (nI 1))) (a := 142) (b := q) (by omega)]
            rw [uI_ne (m := m) (a := 0) (b := q) (by omega)]
            rw [hq1w]
            refine And.intro ⟨by omega, Nat.le_of_ble_eq_true rfl, Nat.le_refl _, Nat.le_refl _⟩ ?_
            refine C204 (m := (uI (uI m 0 0 (nI 1)) 142 0 (nI 0))) ?_
            rw [bi_c (wi_n (n := u) (by omega))]
            refine And.intro (fun cr23 => ?_) (fun cr23 => False.elim (absurd (bi_ne0.mp cr23) (fun z9 => ((irq (by omega)).mp z9).2 (Int32.not_lt.mp cz13))))
            refine And.intro ⟨by omega, Nat.le_of_ble_eq_true rfl, Nat.le_refl _, Nat.le_refl _⟩ (And.intro (Wdo_142 hW) ?_)
            refine C200 (m := (uI (uI m 0 0 (nI 1)) 142 0 (nI 0))) hW ?_
            refine And.intro ⟨rfl, trivial, Nat.le_refl _, Nat.le_refl _⟩ ?_
            exact h2 _ (Rel_ans hR (by decide))
