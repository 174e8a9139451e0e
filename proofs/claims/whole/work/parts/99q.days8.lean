theorem RelE_same {I J : Nat → Nat → Int32} {a : Nat} (h0 : J a = I a) (h1 : J (a + 1) = I (a + 1)) (h12 : J (a + 12) = I (a + 12)) (h13 : J (a + 13) = I (a + 13)) (h139 : J 139 = I 139) (h140 : I 139 4 = nI 1 → J 140 = I 140) (h : RelE I a) : RelE J a := by
  unfold RelE at h ⊢
  rw [h139, h12, h13, h0, h1]
  rcases h with h | ⟨g1, g2⟩
  · exact Or.inl h
  · exact Or.inr ⟨g1, NI_2 (E := fun f => I (139 + f)) h139 (h140 g1) g2⟩
/-- the days are known now -/
theorem Rel_day {z : Nat} {m n : Mm} {a b nn np g : Nat} {D : Nat → Nat → Int32} (hW : Wd m.2.2) (hz : mZ m = z) (hA : RelA m a b) (hX : RelX m a) (h22 : n.2.2 = m.2.2) (hI : ∀ r, ¬ scr r → r ≠ 0 → r ≠ 142 → (r < 112 ∨ 124 ≤ r) → mI n r = mI m r) (h140 : mI m 139 4 = nI 1 → mI n 140 = mI m 140) (hn : mI m (a + 1) 4 = nI nn) (hn6 : nn ≤ 6) (hnp : mI m (a + 1) 8 = nI np) (hnp8 : np ≤ 8) (h12 : mI n 0 12 = nI 0) (hd : ∀ f, f < 12 → mI n (112 + f) = runF (lam m a) (lam m 20) nn np (mI m a 2) (-nI 1) g D f) (h6 : mI n 142 6 = mI m 142 6) (h21 : mI n 142 21 = mI m 142 21) (h22b : mI n 142 22 = mI m 142 22) (hS : RelS (mI n)) : Rel z n := by
  have ha : a = 1 ∨ a = 93 := hA.1.elim (fun z => Or.inl z.1) (fun z => Or.inr z.1)
  have hl : ∀ r, r < 112 → r ≠ 0 → mI n r = mI m r := fun r h1 h2 => hI r (by unfold scr; omega) h2 (by omega) (by omega)
  have hla : ∀ f, f < 19 → mI n (a + f) = mI m (a + f) := fun f hf => hl _ (by omega) (by omega)
  have ez0 : mI n a = mI m a := hla 0 (by decide)
  have ez1 : mI n (a + 1) = mI m (a + 1) := hla 1 (by decide)
  refine Rel_p hW hz hA hX h22 (fun r g1 g2 g3 _ _ g6 => hI r g1 g2 g3 g6) (Or.inr ⟨h12, D, g, fun f hf => ?_⟩) (RelE_same ez0 ez1 (hla 12 (by decide)) (hla 13 (by decide)) (hI 139 (by unfold scr; omega) (by decide) (by decide) (by decide)) h140 hX.2.2.2.2.2) h6 h21 h22b hS
  rw [hd f hf, ez0, ez1, hn, hnp, nv_nI (by omega), nv_nI (by omega)]
  exact congrFun (runF_19 (fun f hf => (hla f hf).symm) (fun f hf => (hl (20 + f) (by omega) (by omega)).symm)) f
theorem P_fate {d : Nat} {m : Mm} {Q : Option Value → Mm → Prop} {z : Nat} {x : Int32} (hd : 16 ≤ d) (hR : Rel z m) (h : ∀ (r : Int32) m1, Wd m1.2.2 → (∀ Q2 : Option Value → Mm → Prop, (∀ m2, Rel z m2 → Q2 (some (.int r)) m2) → Cc d 0 0 278 [.ref 142, .int x] m1 Q2) → Q (some (.int r)) m1) : Cc d 0 0 134 [.ref 0, .int x] m Q := by
  obtain ⟨hW, hz, hS, a, b, hA, hX⟩ := id hR
  obtain ⟨hL, hLb, hab, ha, hb⟩ := RelA_L hW hA
  obtain ⟨n2r, hn2, bn2, ln2⟩ := RL_n (s := 2) (f := 5) hX.2.2.1 (by decide) (fun _ _ h => h.2.2.2.2.2.1)
  change n2r ≤ 6 at bn2
  obtain ⟨n4r, hn4, bn4, ln4⟩ := RL_n (s := 4) (f := 6) hX.2.2.1 (by decide) (fun _ _ h => h.2.2.2.2.2.2.1)
  change n4r ≤ 6 at bn4
  obtain ⟨n8r, hn8, bn8, ln8⟩ := RL_n (s := 8) (f := 10) hX.2.2.1 (by decide) (fun _ _ h => h.2.2.2.2.2.2.2.2.2.2.1)
  change n8r ≤ 8 at bn8
  obtain ⟨n10r, hn10, bn10, ln10⟩ := RL_n (s := 10) (f := 12) hX.2.2.1 (by decide) (fun _ _ h => h.2.2.2.2.2.2.2.2.2.2.2.2.1)
  change n10r ≤ 4 at bn10
  refine ent (n := 52) z134 (by decide) rfl (by decide) (Nat.le_of_ble_eq_true rfl) (fun sc => ?_)
  refine And.intro ⟨by omega, Nat.le_of_ble_eq_true rfl, Nat.le_refl _, Nat.le_refl _⟩ (And.intro (Wdo_0 hW) ?_)
  refine C185 (by omega) hW ha hL hn8 (by omega) ?_
  refine And.intro (fun cz3 => ?_) (fun cz3 => ?_)
  · -- 3 taken: bi (iR x n8r) = 0
    refine And.intro ⟨by omega, Nat.le_of_ble_eq_true rfl, Nat.le_refl _, Nat.le_refl _⟩ (And.intro (Wdo_0 hW) ?_)
    refine C176 hW ?_
    refine And.intro ⟨rfl, trivial, Nat.le_refl _, Nat.le_refl _⟩ ?_
    refine h _ _ hW (fun Q2 h2 => ?_)
    refine ent (n := 60) z278 (by decide) rfl (by decide) (Nat.le_of_ble_eq_true rfl) (fun sc2 => ?_)
    refine And.intro (Wdo_142 hW) ?_
    refine And.intro ⟨by omega, Nat.le_of_ble_eq_true rfl, Nat.le_refl _, Nat.le_refl _⟩ (And.intro (Wdo_142 hW) ?_)
    refine C249 (m := (uI (uI m 0 0 (nI 1)) 142 0 (nI 0))) (by omega) hW (LN_u (LN_u ln8 (by decide)) (by decide)) (by omega) ?_
    refine And.intro (fun cr6 => False.elim (absurd (bi_ne0.mp cr6) (bi_eq0.mp cz3))) (fun cr6 => ?_)
    refine And.intro ⟨by omega, Nat.le_of_ble_eq_true rfl, Nat.le_refl _, Nat.le_refl _⟩ (And.intro (Wdo_142 hW) ?_)
    refine C200 (m := (uI (uI m 0 0 (nI 1)) 142 0 (nI 0))) hW ?_
    refine And.intro ⟨rfl, trivial, Nat.le_refl _, Nat.le_refl _⟩ ?_
    exact h2 _ (Rel_ans hR (by decide))
  · -- 3 not: ¬ bi (iR x n8r) = 0
    obtain ⟨p, hp, rfl⟩ := bi_ne0.mp cz3
    obtain ⟨q, hq1⟩ := RL_1 (s := 8) hX.2.2.1 (by decide) hn8 (show 0 < n8r by omega) (by omega)
    obtain ⟨hq, w, u, ha0, ha1, hq0, hq1w, hw6, hu4, hwu, hgr⟩ := RL_q hq1
    obtain ⟨h158, hqz, hN, h3, ⟨T, hI⟩, hst, hla, hLQ, hSR⟩ := hq1
    have hq6 : mI m q 6 = nI n4r := hLQ.1.2.2.2.2.2.2.1.trans hn4
    have hq5 : mI m q 5 = nI n2r := hLQ.1.2.2.2.2.2.1.trans hn2
    have hJEG := JE_of hI hSR hn2 (by omega) hn4 (by omega) hn8 (by omega)
    refine And.intro ⟨by omega, Nat.le_of_ble_eq_true rfl, Nat.le_refl _, Nat.le_refl _⟩ (And.intro (Wdo_0 hW) ?_)
    refine C188 (n := n4r) (np := n8r) (by omega) hW ha hL hab hJEG.1 hn4 (by omega) hn8 (by omega) hX.2.2.2.2.1 (fun m9 hCU => ?_)
    obtain ⟨a22, po, p0k, p012, DD, gg, pr⟩ := hCU
    have hW0 := hW
    have hW : Wd m9.2.2 := by rw [a22]; exact hW0
    have hak8 : ∀ r, 158 ≤ r → mI m9 r = mI m r := fun r hr => po r (by omega) (by omega)
    have ln2 := LN_m ln2 a22 hak8
    have ln4 := LN_m ln4 a22 hak8
    have ln8 := LN_m ln8 a22 hak8
    have ln10 := LN_m ln10 a22 hak8
    have hq : va_rf (mR m9 142 3) = .ref q := by rw [show mR m9 = mR m from congrArg (fun w : WR => w.1) a22]; exact hq
    have hN : NW m9.2.2 q := by rw [a22]; exact hN
    have hp8 : p < 8 := by omega
    refine And.intro (DWo_0 (Wd_D1 hW)) (Exists.intro _ (And.intro (DWr_0_0 (Wd_D1 hW)) ?_))
    refine And.intro (DWi_1 (Wd_D1 hW) (vi rfl (by omega))) ?_
    rw [nI_clamp (show p < 2 ^ 31 by omega)]
    refine And.intro ⟨by omega, Nat.le_of_ble_eq_true rfl, Nat.le_refl _, Nat.le_refl _⟩ (And.intro (Wdo_0 hW) ?_)
    refine C177 hW ?_
    refine And.intro ⟨rfl, trivial, Nat.le_refl _, Nat.le_refl _⟩ ?_
    refine h _ _ hW (fun Q2 h2 => ?_)
    refine ent (n := 60) z278 (by decide) rfl (by decide) (Nat.le_of_ble_eq_true rfl) (fun sc2 => ?_)
    refine And.intro (Wdo_142 hW) ?_
    refine And.intro ⟨by omega, Nat.le_of_ble_eq_true rfl, Nat.le_refl _, Nat.le_refl _⟩ (And.intro (Wdo_142 hW) ?_)
    refine C249 (m := (uI (uI m9 0 0 (nI 0)) 142 0 (nI 0))) (by omega) hW (LN_u (LN_u ln8 (by decide)) (by decide)) (by omega) ?_
    refine And.intro (fun cr6 => ?_) (fun cr6 => False.elim (absurd (bi_ne0.mp cz3) (bi_eq0.mp cr6)))
    refine And.intro ⟨by omega, Nat.le_of_ble_eq_true rfl, Nat.le_refl _, Nat.le_refl _⟩ (And.intro (Wdo_142 hW) ?_)
    have t22 : (uI (uI m9 0 0 (nI 0)) 142 0 (nI 0)).2.2 = m.2.2 := by rw [uI_22, uI_22]; exact a22
    have tI : ∀ r, r ≠ 0 → r ≠ 142 → ¬ (112 ≤ r ∧ r < 124) → mI (uI (uI m9 0 0 (nI 0)) 142 0 (nI 0)) r = mI m r := fun r h2 h3 h4 => by rw [uI_ne h3, uI_ne h2, po r h2 h4]
    have tD : ∀ f, f < 12 → mI (uI (uI m9 0 0 (nI 0)) 142 0 (nI 0)) (112 + f) = (runF (lam m a) (lam m 20) n4r n8r (mI m a 2) (-nI 1) gg DD) f := fun f hf => by rw [uI_ne (by omega), uI_ne (by omega), pr f hf]
    have t0 : mI (uI (uI m9 0 0 (nI 0)) 142 0 (nI 0)) 0 0 = nI 0 := by rw [uI_ne (by decide), uI_eq, upd_e]
    have t0k : ∀ k, k ≠ 0 → k ≠ 12 → mI (uI (uI m9 0 0 (nI 0)) 142 0 (nI 0)) 0 k = mI m 0 k := fun k hk hk2 => by rw [uI_ne (by decide), uI_eq, upd_o hk, p0k k hk2]
    have t012 : mI (uI (uI m9 0 0 (nI 0)) 142 0 (nI 0)) 0 12 = nI 0 := by rw [uI_ne (by decide), uI_eq, upd_o (by decide), p012]
    have t142 : ∀ k, k ≠ 0 → mI (uI (uI m9 0 0 (nI 0)) 142 0 (nI 0)) 142 k = mI m 142 k := fun k hk => by rw [uI_eq, upd_o hk, uI_ne (by decide), po 142 (by decide) (by decide)]
    generalize (uI (uI m9 0 0 (nI 0)) 142 0 (nI 0)) = m8 at t22 tI tD t0 t0k t012 t142 ⊢
    have hW : Wd m8.2.2 := by rw [t22]; exact hW0
    have hN : NW m8.2.2 q := by rw [t22, ← a22]; exact hN
    have hq : va_rf (mR m8 142 3) = .ref q := by rw [show mR m8 = mR m9 from congrArg (fun w : WR => w.1) (t22.trans a22.symm)]; exact hq
    have hRQ : RQD m8 q (lam m a) (lam m 20) n4r n8r := rq_of hI hSR hn2 (by omega) hn4 (by omega) hn8 (by omega) hLQ hX.2.1 h158 (fun r hr => tI r (by omega) (by omega) (by omega))
    have hlaw : mI m8 q 3 = mI m a 2 := by rw [tI q (by omega) (by omega) (by omega)]; exact hLQ.1.2.2.2.1
    have hpp := (bput_self (m := m8) (x := 148) (n := 7)).symm
    generalize (fun f => mI m8 (148 + f)) = DE9 at hpp
    rw [hpp]
    refine D277 (g0 := gg) (D := DD) (by omega) hW hN hq hRQ (fun ER hFE => ?_)
    clear hpp
    rw [hlaw] at hFE
    have s22 : (bput m8 148 7 ER).2.2 = m8.2.2 := bput_22
    have sI : ∀ r, r < 148 ∨ 155 ≤ r → mI (bput m8 148 7 ER) r = mI m8 r := fun r hr => by
      rcases Nat.lt_or_ge r 148 with z9 | z9
      · exact bput_lo (by omega)
      · exact bput_hi (by omega)
    have sE : ∀ f, f < 7 → mI (bput m8 148 7 ER) (148 + f) = ER f := fun f hf => bput_r hf
    generalize bput m8 148 7 ER = m7 at s22 sI sE ⊢
    have hW : Wd m7.2.2 := by rw [s22]; exact hW
    have hN : NW m7.2.2 q := by rw [s22]; exact hN
    have hq : va_rf (mR m7 142 3) = .ref q := by rw [show mR m7 = mR m8 from congrArg (fun w : WR => w.1) s22]; exact hq
    skip
    refine And.intro (Wdo_142 hW) (Exists.intro _ (And.intro (Wdr_142_25 hW) ?_))
    refine And.intro (Wdi_150 hW (vi rfl (by omega))) ?_
    rw [nI_clamp (show p < 2 ^ 31 by omega)]
    refine And.intro ⟨by omega, Nat.le_of_ble_eq_true rfl, Nat.le_refl _, Nat.le_refl _⟩ (And.intro (Wdo_142 hW) ?_)
    refine C202 (m := m7) hW ?_
    refine And.intro ⟨rfl, trivial, Nat.le_refl _, Nat.le_refl _⟩ ?_
    have hfp := ((hFE p hp8).1 ⟨hp, Or.inl rfl⟩)
    have hval : mI m7 150 p = mI m9 (112 + 1) p := by rw [sE 2 (by decide), pr 1 (by decide)]; exact hfp.1.2.2.1
    rw [hval]
    have y0 : ∀ r, r ≠ 142 → mI (uI (uI m7 142 1 (nI 0)) 142 2 (-nI 1)) r = mI m7 r := fun r g => by rw [uI_ne g, uI_ne g]
    have x0 : ∀ x, x ≠ 0 → x ≠ 1 → x ≠ 2 → mI (uI (uI m7 142 1 (nI 0)) 142 2 (-nI 1)) 142 x = mI m 142 x := fun x g0 g1 g2 => by rw [uI_eq, upd_o g2, uI_eq, upd_o g1, sI 142 (by decide), t142 x g0]
    have y00 : mI (uI (uI m7 142 1 (nI 0)) 142 2 (-nI 1)) 0 0 = nI 0 := by rw [y0 0 (by decide), sI 0 (by decide), t0]
    exact h2 _ (Rel_day (g := gg) (D := DD) hW0 hz hA hX (by rw [uI_22, uI_22, s22]; exact t22) (fun r g1 g2 g3 g4 => by rw [y0 r g3, sI r (Classical.byContradiction fun z9 => g1 (by unfold scr; omega)), tI r g2 g3 (by omega)]) (fun _ => by rw [y0 140 (by decide), sI 140 (by decide), tI 140 (by decide) (by decide) (by decide)]) hn4 (by omega) hn8 (by omega) (by rw [y0 0 (by decide), sI 0 (by decide)]; exact t012) (fun f hf => by rw [y0 (112 + f) (by omega), sI (112 + f) (by omega)]; exact tD f hf) (x0 6 (by decide) (by decide) (by decide)) (x0 21 (by decide) (by decide) (by decide)) (x0 22 (by decide) (by decide) (by decide)) ⟨by rw [y00, uI_eq, upd_o (by decide), uI_eq, upd_e], by rw [x0 14 (by decide) (by decide) (by decide), y0 0 (by decide), sI 0 (by decide), t0k 1 (by decide) (by decide)]; exact hS.2.1, by rw [y00, uI_eq, upd_e, if_neg (by decide)]⟩)
theorem P_when {d : Nat} {m : Mm} {Q : Option Value → Mm → Prop} {z : Nat} {x : Int32} (hd : 16 ≤ d) (hR : Rel z m) (h : ∀ (r : Int32) m1, Wd m1.2.2 → (∀ Q2 : Option Value → Mm → Prop, (∀ m2, Rel z m2 → Q2 (some (.int r)) m2) → Cc d 0 0 279 [.ref 142, .int x] m1 Q2) → Q (some (.int r)) m1) : Cc d 0 0 135 [.ref 0, .int x] m Q := by
  obtain ⟨hW, hz, hS, a, b, hA, hX⟩ := id hR
  obtain ⟨hL, hLb, hab, ha, hb⟩ := RelA_L hW hA
  obtain ⟨n2r, hn2, bn2, ln2⟩ := RL_n (s := 2) (f := 5) hX.2.2.1 (by decide) (fun _ _ h => h.2.2.2.2.2.1)
  change n2r ≤ 6 at bn2
  obtain ⟨n4r, hn4, bn4, ln4⟩ := RL_n (s := 4) (f := 6) hX.2.2.1 (by decide) (fun _ _ h => h.2.2.2.2.2.2.1)
  change n4r ≤ 6 at bn4
  obtain ⟨n8r, hn8, bn8, ln8⟩ := RL_n (s := 8) (f := 10) hX.2.2.1 (by decide) (fun _ _ h => h.2.2.2.2.2.2.2.2.2.2.1)
  change n8r ≤ 8 at bn8
  obtain ⟨n10r, hn10, bn10, ln10⟩ := RL_n (s := 10) (f := 12) hX.2.2.1 (by decide) (fun _ _ h => h.2.2.2.2.2.2.2.2.2.2.2.2.1)
  change n10r ≤ 4 at bn10
  refine ent (n := 52) z135 (by decide) rfl (by decide) (Nat.le_of_ble_eq_true rfl) (fun sc => ?_)
  refine And.intro ⟨by omega, Nat.le_of_ble_eq_true rfl, Nat.le_refl _, Nat.le_refl _⟩ (And.intro (Wdo_0 hW) ?_)
  refine C185 (by omega) hW ha hL hn8 (by omega) ?_
  refine And.intro (fun cz3 => ?_) (fun cz3 => ?_)
  · -- 3 taken: bi (iR x n8r) = 0
    refine And.intro ⟨by omega, Nat.le_of_ble_eq_true rfl, Nat.le_refl _, Nat.le_refl _⟩ (And.intro (Wdo_0 hW) ?_)
    refine C176 hW ?_
    refine And.intro ⟨rfl, trivial, Nat.le_refl _, Nat.le_refl _⟩ ?_
    refine h _ _ hW (fun Q2 h2 => ?_)
    refine ent (n := 60) z279 (by decide) rfl (by decide) (Nat.le_of_ble_eq_true rfl) (fun sc2 => ?_)
    refine And.intro (Wdo_142 hW) ?_
    refine And.intro ⟨by omega, Nat.le_of_ble_eq_true rfl, Nat.le_refl _, Nat.le_refl _⟩ (And.intro (Wdo_142 hW) ?_)
    refine C249 (m := (uI (uI m 0 0 (nI 1)) 142 0 (nI 0))) (by omega) hW (LN_u (LN_u ln8 (by decide)) (by decide)) (by omega) ?_
    refine And.intro (fun cr6 => False.elim (absurd (bi_ne0.mp cr6) (bi_eq0.mp cz3))) (fun cr6 => ?_)
    refine And.intro ⟨by omega, Nat.le_of_ble_eq_true rfl, Nat.le_refl _, Nat.le_refl _⟩ (And.intro (Wdo_142 hW) ?_)
    refine C200 (m := (uI (uI m 0 0 (nI 1)) 142 0 (nI 0))) hW ?_
    refine And.intro ⟨rfl, trivial, Nat.le_refl _, Nat.le_refl _⟩ ?_
    exact h2 _ (Rel_ans hR (by decide))
  · -- 3 not: ¬ bi (iR x n8r) = 0
    obtain ⟨p, hp, rfl⟩ := bi_ne0.mp cz3
    obtain ⟨q, hq1⟩ := RL_1 (s := 8) hX.2.2.1 (by decide) hn8 (show 0 < n8r by omega) (by omega)
    obtain ⟨hq, w, u, ha0, ha1, hq0, hq1w, hw6, hu4, hwu, hgr⟩ := RL_q hq1
    obtain ⟨h158, hqz, hN, h3, ⟨T, hI⟩, hst, hla, hLQ, hSR⟩ := hq1
    have hq6 : mI m q 6 = nI n4r := hLQ.1.2.2.2.2.2.2.1.trans hn4
    have hq5 : mI m q 5 = nI n2r := hLQ.1.2.2.2.2.2.1.trans hn2
    have hJEG := JE_of hI hSR hn2 (by omega) hn4 (by omega) hn8 (by omega)
    refine And.intro ⟨by omega, Nat.le_of_ble_eq_true rfl, Nat.le_refl _, Nat.le_refl _⟩ (And.intro (Wdo_0 hW) ?_)
    refine C188 (n := n4r) (np := n8r) (by omega) hW ha hL hab hJEG.1 hn4 (by omega) hn8 (by omega) hX.2.2.2.2.1 (fun m9 hCU => ?_)
    obtain ⟨a22, po, p0k, p012, DD, gg, pr⟩ := hCU
    have hW0 := hW
    have hW : Wd m9.2.2 := by rw [a22]; exact hW0
    have hak8 : ∀ r, 158 ≤ r → mI m9 r = mI m r := fun r hr => po r (by omega) (by omega)
    have ln2 := LN_m ln2 a22 hak8
    have ln4 := LN_m ln4 a22 hak8
    have ln8 := LN_m ln8 a22 hak8
    have ln10 := LN_m ln10 a22 hak8
    have hq : va_rf (mR m9 142 3) = .ref q := by rw [show mR m9 = mR m from congrArg (fun w : WR => w.1) a22]; exact hq
    have hN : NW m9.2.2 q := by rw [a22]; exact hN
    have hp8 : p < 8 := by omega
    refine And.intro (DWo_0 (Wd_D1 hW)) (Exists.intro _ (And.intro (DWr_0_1 (Wd_D1 hW)) ?_))
    refine And.intro (DWi_2 (Wd_D1 hW) (vi rfl (by omega))) ?_
    rw [nI_clamp (show p < 2 ^ 31 by omega)]
    refine And.intro ⟨by omega, Nat.le_of_ble_eq_true rfl, Nat.le_refl _, Nat.le_refl _⟩ (And.intro (Wdo_0 hW) ?_)
    refine C177 hW ?_
    refine And.intro ⟨rfl, trivial, Nat.le_refl _, Nat.le_refl _⟩ ?_
    refine h _ _ hW (fun Q2 h2 => ?_)
    refine ent (n := 60) z279 (by decide) rfl (by decide) (Nat.le_of_ble_eq_true rfl) (fun sc2 => ?_)
    refine And.intro (Wdo_142 hW) ?_
    refine And.intro ⟨by omega, Nat.le_of_ble_eq_true rfl, Nat.le_refl _, Nat.le_refl _⟩ (And.intro (Wdo_142 hW) ?_)
    refine C249 (m := (uI (uI m9 0 0 (nI 0)) 142 0 (nI 0))) (by omega) hW (LN_u (LN_u ln8 (by decide)) (by decide)) (by omega) ?_
    refine And.intro (fun cr6 => ?_) (fun cr6 => False.elim (absurd (bi_ne0.mp cz3) (bi_eq0.mp cr6)))
    refine And.intro ⟨by omega, Nat.le_of_ble_eq_true rfl, Nat.le_refl _, Nat.le_refl _⟩ (And.intro (Wdo_142 hW) ?_)
    have t22 : (uI (uI m9 0 0 (nI 0)) 142 0 (nI 0)).2.2 = m.2.2 := by rw [uI_22, uI_22]; exact a22
    have tI : ∀ r, r ≠ 0 → r ≠ 142 → ¬ (112 ≤ r ∧ r < 124) → mI (uI (uI m9 0 0 (nI 0)) 142 0 (nI 0)) r = mI m r := fun r h2 h3 h4 => by rw [uI_ne h3, uI_ne h2, po r h2 h4]
    have tD : ∀ f, f < 12 → mI (uI (uI m9 0 0 (nI 0)) 142 0 (nI 0)) (112 + f) = (runF (lam m a) (lam m 20) n4r n8r (mI m a 2) (-nI 1) gg DD) f := fun f hf => by rw [uI_ne (by omega), uI_ne (by omega), pr f hf]
    have t0 : mI (uI (uI m9 0 0 (nI 0)) 142 0 (nI 0)) 0 0 = nI 0 := by rw [uI_ne (by decide), uI_eq, upd_e]
    have t0k : ∀ k, k ≠ 0 → k ≠ 12 → mI (uI (uI m9 0 0 (nI 0)) 142 0 (nI 0)) 0 k = mI m 0 k := fun k hk hk2 => by rw [uI_ne (by decide), uI_eq, upd_o hk, p0k k hk2]
    have t012 : mI (uI (uI m9 0 0 (nI 0)) 142 0 (nI 0)) 0 12 = nI 0 := by rw [uI_ne (by decide), uI_eq, upd_o (by decide), p012]
    have t142 : ∀ k, k ≠ 0 → mI (uI (uI m9 0 0 (nI 0)) 142 0 (nI 0)) 142 k = mI m 142 k := fun k hk => by rw [uI_eq, upd_o hk, uI_ne (by decide), po 142 (by decide) (by decide)]
    generalize (uI (uI m9 0 0 (nI 0)) 142 0 (nI 0)) = m8 at t22 tI tD t0 t0k t012 t142 ⊢
    have hW : Wd m8.2.2 := by rw [t22]; exact hW0
    have hN : NW m8.2.2 q := by rw [t22, ← a22]; exact hN
    have hq : va_rf (mR m8 142 3) = .ref q := by rw [show mR m8 = mR m9 from congrArg (fun w : WR => w.1) (t22.trans a22.symm)]; exact hq
    have hRQ : RQD m8 q (lam m a) (lam m 20) n4r n8r := rq_of hI hSR hn2 (by omega) hn4 (by omega) hn8 (by omega) hLQ hX.2.1 h158 (fun r hr => tI r (by omega) (by omega) (by omega))
    have hlaw : mI m8 q 3 = mI m a 2 := by rw [tI q (by omega) (by omega) (by omega)]; exact hLQ.1.2.2.2.1
    have hpp := (bput_self (m := m8) (x := 148) (n := 7)).symm
    generalize (fun f => mI m8 (148 + f)) = DE9 at hpp
    rw [hpp]
    refine D277 (g0 := gg) (D := DD) (by omega) hW hN hq hRQ (fun ER hFE => ?_)
    clear hpp
    rw [hlaw] at hFE
    have s22 : (bput m8 148 7 ER).2.2 = m8.2.2 := bput_22
    have sI : ∀ r, r < 148 ∨ 155 ≤ r → mI (bput m8 148 7 ER) r = mI m8 r := fun r hr => by
      rcases Nat.lt_or_ge r 148 with z9 | z9
      · exact bput_lo (by omega)
      · exact bput_hi (by omega)
    have sE : ∀ f, f < 7 → mI (bput m8 148 7 ER) (148 + f) = ER f := fun f hf => bput_r hf
    generalize bput m8 148 7 ER = m7 at s22 sI sE ⊢
    have hW : Wd m7.2.2 := by rw [s22]; exact hW
    have hN : NW m7.2.2 q := by rw [s22]; exact hN
    have hq : va_rf (mR m7 142 3) = .ref q := by rw [show mR m7 = mR m8 from congrArg (fun w : WR => w.1) s22]; exact hq
    skip
    refine And.intro (Wdo_142 hW) (Exists.intro _ (And.intro (Wdr_142_26 hW) ?_))
    refine And.intro (Wdi_151 hW (vi rfl (by omega))) ?_
    rw [nI_clamp (show p < 2 ^ 31 by omega)]
    refine And.intro ⟨by omega, Nat.le_of_ble_eq_true rfl, Nat.le_refl _, Nat.le_refl _⟩ (And.intro (Wdo_142 hW) ?_)
    refine C202 (m := m7) hW ?_
    refine And.intro ⟨rfl, trivial, Nat.le_refl _, Nat.le_refl _⟩ ?_
    have hfp := ((hFE p hp8).1 ⟨hp, Or.inl rfl⟩)
    have hval : mI m7 151 p = mI m9 (112 + 2) p := by rw [sE 3 (by decide), pr 2 (by decide)]; exact hfp.1.2.2.2.1
    rw [hval]
    have y0 : ∀ r, r ≠ 142 → mI (uI (uI m7 142 1 (nI 0)) 142 2 (-nI 1)) r = mI m7 r := fun r g => by rw [uI_ne g, uI_ne g]
    have x0 : ∀ x, x ≠ 0 → x ≠ 1 → x ≠ 2 → mI (uI (uI m7 142 1 (nI 0)) 142 2 (-nI 1)) 142 x = mI m 142 x := fun x g0 g1 g2 => by rw [uI_eq, upd_o g2, uI_eq, upd_o g1, sI 142 (by decide), t142 x g0]
    have y00 : mI (uI (uI m7 142 1 (nI 0)) 142 2 (-nI 1)) 0 0 = nI 0 := by rw [y0 0 (by decide), sI 0 (by decide), t0]
    exact h2 _ (Rel_day (g := gg) (D := DD) hW0 hz hA hX (by rw [uI_22, uI_22, s22]; exact t22) (fun r g1 g2 g3 g4 => by rw [y0 r g3, sI r (Classical.byContradiction fun z9 => g1 (by unfold scr; omega)), tI r g2 g3 (by omega)]) (fun _ => by rw [y0 140 (by decide), sI 140 (by decide), tI 140 (by decide) (by decide) (by decide)]) hn4 (by omega) hn8 (by omega) (by rw [y0 0 (by decide), sI 0 (by decide)]; exact t012) (fun f hf => by rw [y0 (112 + f) (by omega), sI (112 + f) (by omega)]; exact tD f hf) (x0 6 (by decide) (by decide) (by decide)) (x0 21 (by decide) (by decide) (by decide)) (x0 22 (by decide) (by decide) (by decide)) ⟨by rw [y00, uI_eq, upd_o (by decide), uI_eq, upd_e], by rw [x0 14 (by decide) (by decide) (by decide), y0 0 (by decide), sI 0 (by decide), t0k 1 (by decide) (by decide)]; exact hS.2.1, by rw [y00, uI_eq, upd_e, if_neg (by decide)]⟩)
theorem P_whom {d : Nat} {m : Mm} {Q : Option Value → Mm → Prop} {z : Nat} {x : Int32} (hd : 16 ≤ d) (hR : Rel z m) (h : ∀ (r : Int32) m1, Wd m1.2.2 → (∀ Q2 : Option Value → Mm → Prop, (∀ m2, Rel z m2 → Q2 (some (.int r)) m2) → Cc d 0 0 280 [.ref 142, .int x] m1 Q2) → Q (some (.int r)) m1) : Cc d 0 0 136 [.ref 0, .int x] m Q := by
  obtain ⟨hW, hz, hS, a, b, hA, hX⟩ := id hR
  obtain ⟨hL, hLb, hab, ha, hb⟩ := RelA_L hW hA
  obtain ⟨n2r, hn2, bn2, ln2⟩ := RL_n (s := 2) (f := 5) hX.2.2.1 (by decide) (fun _ _ h => h.2.2.2.2.2.1)
  change n2r ≤ 6 at bn2
  obtain ⟨n4r, hn4, bn4, ln4⟩ := RL_n (s := 4) (f := 6) hX.2.2.1 (by decide) (fun _ _ h => h.2.2.2.2.2.2.1)
  change n4r ≤ 6 at bn4
  obtain ⟨n8r, hn8, bn8, ln8⟩ := RL_n (s := 8) (f := 10) hX.2.2.1 (by decide) (fun _ _ h => h.2.2.2.2.2.2.2.2.2.2.1)
  change n8r ≤ 8 at bn8
  obtain ⟨n10r, hn10, bn10, ln10⟩ := RL_n (s := 10) (f := 12) hX.2.2.1 (by decide) (fun _ _ h => h.2.2.2.2.2.2.2.2.2.2.2.2.1)
  change n10r ≤ 4 at bn10
  refine ent (n := 52) z136 (by decide) rfl (by decide) (Nat.le_of_ble_eq_true rfl) (fun sc => ?_)
  refine And.intro ⟨by omega, Nat.le_of_ble_eq_true rfl, Nat.le_refl _, Nat.le_refl _⟩ (And.intro (Wdo_0 hW) ?_)
  refine C185 (by omega) hW ha hL hn8 (by omega) ?_
  refine And.intro (fun cz3 => ?_) (fun cz3 => ?_)
  · -- 3 taken: bi (iR x n8r) = 0
    refine And.intro ⟨by omega, Nat.le_of_ble_eq_true rfl, Nat.le_refl _, Nat.le_refl _⟩ (And.intro (Wdo_0 hW) ?_)
    refine C176 hW ?_
    refine And.intro ⟨rfl, trivial, Nat.le_refl _, Nat.le_refl _⟩ ?_
    refine h _ _ hW (fun Q2 h2 => ?_)
    refine ent (n := 60) z280 (by decide) rfl (by decide) (Nat.le_of_ble_eq_true rfl) (fun sc2 => ?_)
    refine And.intro (Wdo_142 hW) ?_
    refine And.intro ⟨by omega, Nat.le_of_ble_eq_true rfl, Nat.le_refl _, Nat.le_refl _⟩ (And.intro (Wdo_142 hW) ?_)
    refine C249 (m := (uI (uI m 0 0 (nI 1)) 142 0 (nI 0))) (by omega) hW (LN_u (LN_u ln8 (by decide)) (by decide)) (by omega) ?_
    refine And.intro (fun cr6 => False.elim (absurd (bi_ne0.mp cr6) (bi_eq0.mp cz3))) (fun cr6 => ?_)
    refine And.intro ⟨by omega, Nat.le_of_ble_eq_true rfl, Nat.le_refl _, Nat.le_refl _⟩ (And.intro (Wdo_142 hW) ?_)
    refine C200 (m := (uI (uI m 0 0 (nI 1)) 142 0 (nI 0))) hW ?_
    refine And.intro ⟨rfl, trivial, Nat.le_refl _, Nat.le_refl _⟩ ?_
    exact h2 _ (Rel_ans hR (by decide))
  · -- 3 not: ¬ bi (iR x n8r) = 0
    obtain ⟨p, hp, rfl⟩ := bi_ne0.mp cz3
    obtain ⟨q, hq1⟩ := RL_1 (s := 8) hX.2.2.1 (by decide) hn8 (show 0 < n8r by omega) (by omega)
    obtain ⟨hq, w, u, ha0, ha1, hq0, hq1w, hw6, hu4, hwu, hgr⟩ := RL_q hq1
    obtain ⟨h158, hqz, hN, h3, ⟨T, hI⟩, hst, hla, hLQ, hSR⟩ := hq1
    have hq6 : mI m q 6 = nI n4r := hLQ.1.2.2.2.2.2.2.1.trans hn4
    have hq5 : mI m q 5 = nI n2r := hLQ.1.2.2.2.2.2.1.trans hn2
    have hJEG := JE_of hI hSR hn2 (by omega) hn4 (by omega) hn8 (by omega)
    refine And.intro ⟨by omega, Nat.le_of_ble_eq_true rfl, Nat.le_refl _, Nat.le_refl _⟩ (And.intro (Wdo_0 hW) ?_)
    refine C188 (n := n4r) (np := n8r) (by omega) hW ha hL hab hJEG.1 hn4 (by omega) hn8 (by omega) hX.2.2.2.2.1 (fun m9 hCU => ?_)
    obtain ⟨a22, po, p0k, p012, DD, gg, pr⟩ := hCU
    have hW0 := hW
    have hW : Wd m9.2.2 := by rw [a22]; exact hW0
    have hak8 : ∀ r, 158 ≤ r → mI m9 r = mI m r := fun r hr => po r (by omega) (by omega)
    have ln2 := LN_m ln2 a22 hak8
    have ln4 := LN_m ln4 a22 hak8
    have ln8 := LN_m ln8 a22 hak8
    have ln10 := LN_m ln10 a22 hak8
    have hq : va_rf (mR m9 142 3) = .ref q := by rw [show mR m9 = mR m from congrArg (fun w : WR => w.1) a22]; exact hq
    have hN : NW m9.2.2 q := by rw [a22]; exact hN
    have hp8 : p < 8 := by omega
    refine And.intro (DWo_0 (Wd_D1 hW)) (Exists.intro _ (And.intro (DWr_0_4 (Wd_D1 hW)) ?_))
    refine And.intro (DWi_5 (Wd_D1 hW) (vi rfl (by omega))) ?_
    rw [nI_clamp (show p < 2 ^ 31 by omega)]
    refine And.intro ⟨by omega, Nat.le_of_ble_eq_true rfl, Nat.le_refl _, Nat.le_refl _⟩ (And.intro (Wdo_0 hW) ?_)
    refine C177 hW ?_
    refine And.intro ⟨rfl, trivial, Nat.le_refl _, Nat.le_refl _⟩ ?_
    refine h _ _ hW (fun Q2 h2 => ?_)
    refine ent (n := 60) z280 (by decide) rfl (by decide) (Nat.le_of_ble_eq_true rfl) (fun sc2 => ?_)
    refine And.intro (Wdo_142 hW) ?_
    refine And.intro ⟨by omega, Nat.le_of_ble_eq_true rfl, Nat.le_refl _, Nat.le_refl _⟩ (And.intro (Wdo_142 hW) ?_)
    refine C249 (m := (uI (uI m9 0 0 (nI 0)) 142 0 (nI 0))) (by omega) hW (LN_u (LN_u ln8 (by decide)) (by decide)) (by omega) ?_
    refine And.intro (fun cr6 => ?_) (fun cr6 => False.elim (absurd (bi_ne0.mp cz3) (bi_eq0.mp cr6)))
    refine And.intro ⟨by omega, Nat.le_of_ble_eq_true rfl, Nat.le_refl _, Nat.le_refl _⟩ (And.intro (Wdo_142 hW) ?_)
    have t22 : (uI (uI m9 0 0 (nI 0)) 142 0 (nI 0)).2.2 = m.2.2 := by rw [uI_22, uI_22]; exact a22
    have tI : ∀ r, r ≠ 0 → r ≠ 142 → ¬ (112 ≤ r ∧ r < 124) → mI (uI (uI m9 0 0 (nI 0)) 142 0 (nI 0)) r = mI m r := fun r h2 h3 h4 => by rw [uI_ne h3, uI_ne h2, po r h2 h4]
    have tD : ∀ f, f < 12 → mI (uI (uI m9 0 0 (nI 0)) 142 0 (nI 0)) (112 + f) = (runF (lam m a) (lam m 20) n4r n8r (mI m a 2) (-nI 1) gg DD) f := fun f hf => by rw [uI_ne (by omega), uI_ne (by omega), pr f hf]
    have t0 : mI (uI (uI m9 0 0 (nI 0)) 142 0 (nI 0)) 0 0 = nI 0 := by rw [uI_ne (by decide), uI_eq, upd_e]
    have t0k : ∀ k, k ≠ 0 → k ≠ 12 → mI (uI (uI m9 0 0 (nI 0)) 142 0 (nI 0)) 0 k = mI m 0 k := fun k hk hk2 => by rw [uI_ne (by decide), uI_eq, upd_o hk, p0k k hk2]
    have t012 : mI (uI (uI m9 0 0 (nI 0)) 142 0 (nI 0)) 0 12 = nI 0 := by rw [uI_ne (by decide), uI_eq, upd_o (by decide), p012]
    have t142 : ∀ k, k ≠ 0 → mI (uI (uI m9 0 0 (nI 0)) 142 0 (nI 0)) 142 k = mI m 142 k := fun k hk => by rw [uI_eq, upd_o hk, uI_ne (by decide), po 142 (by decide) (by decide)]
    generalize (uI (uI m9 0 0 (nI 0)) 142 0 (nI 0)) = m8 at t22 tI tD t0 t0k t012 t142 ⊢
    have hW : Wd m8.2.2 := by rw [t22]; exact hW0
    have hN : NW m8.2.2 q := by rw [t22, ← a22]; exact hN
    have hq : va_rf (mR m8 142 3) = .ref q := by rw [show mR m8 = mR m9 from congrArg (fun w : WR => w.1) (t22.trans a22.symm)]; exact hq
    have hRQ : RQD m8 q (lam m a) (lam m 20) n4r n8r := rq_of hI hSR hn2 (by omega) hn4 (by omega) hn8 (by omega) hLQ hX.2.1 h158 (fun r hr => tI r (by omega) (by omega) (by omega))
    have hlaw : mI m8 q 3 = mI m a 2 := by rw [tI q (by omega) (by omega) (by omega)]; exact hLQ.1.2.2.2.1
    have hpp := (bput_self (m := m8) (x := 148) (n := 7)).symm
    generalize (fun f => mI m8 (148 + f)) = DE9 at hpp
    rw [hpp]
    refine D277 (g0 := gg) (D := DD) (by omega) hW hN hq hRQ (fun ER hFE => ?_)
    clear hpp
    rw [hlaw] at hFE
    have s22 : (bput m8 148 7 ER).2.2 = m8.2.2 := bput_22
    have sI : ∀ r, r < 148 ∨ 155 ≤ r → mI (bput m8 148 7 ER) r = mI m8 r := fun r hr => by
      rcases Nat.lt_or_ge r 148 with z9 | z9
      · exact bput_lo (by omega)
      · exact bput_hi (by omega)
    have sE : ∀ f, f < 7 → mI (bput m8 148 7 ER) (148 + f) = ER f := fun f hf => bput_r hf
    generalize bput m8 148 7 ER = m7 at s22 sI sE ⊢
    have hW : Wd m7.2.2 := by rw [s22]; exact hW
    have hN : NW m7.2.2 q := by rw [s22]; exact hN
    have hq : va_rf (mR m7 142 3) = .ref q := by rw [show mR m7 = mR m8 from congrArg (fun w : WR => w.1) s22]; exact hq
    skip
    refine And.intro (Wdo_142 hW) (Exists.intro _ (And.intro (Wdr_142_23 hW) ?_))
    refine And.intro (Wdi_148 hW (vi rfl (by omega))) ?_
    rw [nI_clamp (show p < 2 ^ 31 by omega)]
    refine And.intro ⟨by omega, Nat.le_of_ble_eq_true rfl, Nat.le_refl _, Nat.le_refl _⟩ (And.intro (Wdo_142 hW) ?_)
    refine C202 (m := m7) hW ?_
    refine And.intro ⟨rfl, trivial, Nat.le_refl _, Nat.le_refl _⟩ ?_
    have hfp := ((hFE p hp8).1 ⟨hp, Or.inl rfl⟩)
    have hval : mI m7 148 p = mI m9 (112 + 5) p := by rw [sE 0 (by decide), pr 5 (by decide)]; exact hfp.1.1
    rw [hval]
    have y0 : ∀ r, r ≠ 142 → mI (uI (uI m7 142 1 (nI 0)) 142 2 (-nI 1)) r = mI m7 r := fun r g => by rw [uI_ne g, uI_ne g]
    have x0 : ∀ x, x ≠ 0 → x ≠ 1 → x ≠ 2 → mI (uI (uI m7 142 1 (nI 0)) 142 2 (-nI 1)) 142 x = mI m 142 x := fun x g0 g1 g2 => by rw [uI_eq, upd_o g2, uI_eq, upd_o g1, sI 142 (by decide), t142 x g0]
    have y00 : mI (uI (uI m7 142 1 (nI 0)) 142 2 (-nI 1)) 0 0 = nI 0 := by rw [y0 0 (by decide), sI 0 (by decide), t0]
    exact h2 _ (Rel_day (g := gg) (D := DD) hW0 hz hA hX (by rw [uI_22, uI_22, s22]; exact t22) (fun r g1 g2 g3 g4 => by rw [y0 r g3, sI r (Classical.byContradiction fun z9 => g1 (by unfold scr; omega)), tI r g2 g3 (by omega)]) (fun _ => by rw [y0 140 (by decide), sI 140 (by decide), tI 140 (by decide) (by decide) (by decide)]) hn4 (by omega) hn8 (by omega) (by rw [y0 0 (by decide), sI 0 (by decide)]; exact t012) (fun f hf => by rw [y0 (112 + f) (by omega), sI (112 + f) (by omega)]; exact tD f hf) (x0 6 (by decide) (by decide) (by decide)) (x0 21 (by decide) (by decide) (by decide)) (x0 22 (by decide) (by decide) (by decide)) ⟨by rw [y00, uI_eq, upd_o (by decide), uI_eq, upd_e], by rw [x0 14 (by decide) (by decide) (by decide), y0 0 (by decide), sI 0 (by decide), t0k 1 (by decide) (by decide)]; exact hS.2.1, by rw [y00, uI_eq, upd_e, if_neg (by decide)]⟩)
theorem P_waits {d : Nat} {m : Mm} {Q : Option Value → Mm → Prop} {z : Nat} {x : Int32} (hd : 16 ≤ d) (hR : Rel z m) (h : ∀ (r : Int32) m1, Wd m1.2.2 → (∀ Q2 : Option Value → Mm → Prop, (∀ m2, Rel z m2 → Q2 (some (.int r)) m2) → Cc d 0 0 281 [.ref 142, .int x] m1 Q2) → Q (some (.int r)) m1) : Cc d 0 0 137 [.ref 0, .int x] m Q := by
  obtain ⟨hW, hz, hS, a, b, hA, hX⟩ := id hR
  obtain ⟨hL, hLb, hab, ha, hb⟩ := RelA_L hW hA
  obtain ⟨n2r, hn2, bn2, ln2⟩ := RL_n (s := 2) (f := 5) hX.2.2.1 (by decide) (fun _ _ h => h.2.2.2.2.2.1)
  change n2r ≤ 6 at bn2
  obtain ⟨n4r, hn4, bn4, ln4⟩ := RL_n (s := 4) (f := 6) hX.2.2.1 (by decide) (fun _ _ h => h.2.2.2.2.2.2.1)
  change n4r ≤ 6 at bn4
  obtain ⟨n8r, hn8, bn8, ln8⟩ := RL_n (s := 8) (f := 10) hX.2.2.1 (by decide) (fun _ _ h => h.2.2.2.2.2.2.2.2.2.2.1)
  change n8r ≤ 8 at bn8
  obtain ⟨n10r, hn10, bn10, ln10⟩ := RL_n (s := 10) (f := 12) hX.2.2.1 (by decide) (fun _ _ h => h.2.2.2.2.2.2.2.2.2.2.2.2.1)
  change n10r ≤ 4 at bn10
  refine ent (n := 52) z137 (by decide) rfl (by decide) (Nat.le_of_ble_eq_true rfl) (fun sc => ?_)
  refine And.intro ⟨by omega, Nat.le_of_ble_eq_true rfl, Nat.le_refl _, Nat.le_refl _⟩ (And.intro (Wdo_0 hW) ?_)
  refine C185 (by omega) hW ha hL hn8 (by omega) ?_
  refine And.intro (fun cz3 => ?_) (fun cz3 => ?_)
  · -- 3 taken: bi (iR x n8r) = 0
    refine And.intro ⟨by omega, Nat.le_of_ble_eq_true rfl, Nat.le_refl _, Nat.le_refl _⟩ (And.intro (Wdo_0 hW) ?_)
    refine C176 hW ?_
    refine And.intro ⟨rfl, trivial, Nat.le_refl _, Nat.le_refl _⟩ ?_
    refine h _ _ hW (fun Q2 h2 => ?_)
    refine ent (n := 60) z281 (by decide) rfl (by decide) (Nat.le_of_ble_eq_true rfl) (fun sc2 => ?_)
    refine And.intro (Wdo_142 hW) ?_
    refine And.intro ⟨by omega, Nat.le_of_ble_eq_true rfl, Nat.le_refl _, Nat.le_refl _⟩ (And.intro (Wdo_142 hW) ?_)
    refine C249 (m := (uI (uI m 0 0 (nI 1)) 142 0 (nI 0))) (by omega) hW (LN_u (LN_u ln8 (by decide)) (by decide)) (by omega) ?_
    refine And.intro (fun cr6 => False.elim (absurd (bi_ne0.mp cr6) (bi_eq0.mp cz3))) (fun cr6 => ?_)
    refine And.intro ⟨by omega, Nat.le_of_ble_eq_true rfl, Nat.le_refl _, Nat.le_refl _⟩ (And.intro (Wdo_142 hW) ?_)
    refine C200 (m := (uI (uI m 0 0 (nI 1)) 142 0 (nI 0))) hW ?_
    refine And.intro ⟨rfl, trivial, Nat.le_refl _, Nat.le_refl _⟩ ?_
    exact h2 _ (Rel_ans hR (by decide))
  · -- 3 not: ¬ bi (iR x n8r) = 0
    obtain ⟨p, hp, rfl⟩ := bi_ne0.mp cz3
    obtain ⟨q, hq1⟩ := RL_1 (s := 8) hX.2.2.1 (by decide) hn8 (show 0 < n8r by omega) (by omega)
    obtain ⟨hq, w, u, ha0, ha1, hq0, hq1w, hw6, hu4, hwu, hgr⟩ := RL_q hq1
    obtain ⟨h158, hqz, hN, h3, ⟨T, hI⟩, hst, hla, hLQ, hSR⟩ := hq1
    have hq6 : mI m q 6 = nI n4r := hLQ.1.2.2.2.2.2.2.1.trans hn4
    have hq5 : mI m q 5 = nI n2r := hLQ.1.2.2.2.2.2.1.trans hn2
    have hJEG := JE_of hI hSR hn2 (by omega) hn4 (by omega) hn8 (by omega)
    refine And.intro ⟨by omega, Nat.le_of_ble_eq_true rfl, Nat.le_refl _, Nat.le_refl _⟩ (And.intro (Wdo_0 hW) ?_)
    refine C188 (n := n4r) (np := n8r) (by omega) hW ha hL hab hJEG.1 hn4 (by omega) hn8 (by omega) hX.2.2.2.2.1 (fun m9 hCU => ?_)
    obtain ⟨a22, po, p0k, p012, DD, gg, pr⟩ := hCU
    have hW0 := hW
    have hW : Wd m9.2.2 := by rw [a22]; exact hW0
    have hak8 : ∀ r, 158 ≤ r → mI m9 r = mI m r := fun r hr => po r (by omega) (by omega)
    have ln2 := LN_m ln2 a22 hak8
    have ln4 := LN_m ln4 a22 hak8
    have ln8 := LN_m ln8 a22 hak8
    have ln10 := LN_m ln10 a22 hak8
    have hq : va_rf (mR m9 142 3) = .ref q := by rw [show mR m9 = mR m from congrArg (fun w : WR => w.1) a22]; exact hq
    have hN : NW m9.2.2 q := by rw [a22]; exact hN
    have hp8 : p < 8 := by omega
    refine And.intro (DWo_0 (Wd_D1 hW)) (Exists.intro _ (And.intro (DWr_0_6 (Wd_D1 hW)) ?_))
    refine And.intro (DWi_7 (Wd_D1 hW) (vi rfl (by omega))) ?_
    rw [nI_clamp (show p < 2 ^ 31 by omega)]
    refine And.intro ⟨by omega, Nat.le_of_ble_eq_true rfl, Nat.le_refl _, Nat.le_refl _⟩ (And.intro (Wdo_0 hW) ?_)
    refine C177 hW ?_
    refine And.intro ⟨rfl, trivial, Nat.le_refl _, Nat.le_refl _⟩ ?_
    refine h _ _ hW (fun Q2 h2 => ?_)
    refine ent (n := 60) z281 (by decide) rfl (by decide) (Nat.le_of_ble_eq_true rfl) (fun sc2 => ?_)
    refine And.intro (Wdo_142 hW) ?_
    refine And.intro ⟨by omega, Nat.le_of_ble_eq_true rfl, Nat.le_refl _, Nat.le_refl _⟩ (And.intro (Wdo_142 hW) ?_)
    refine C249 (m := (uI (uI m9 0 0 (nI 0)) 142 0 (nI 0))) (by omega) hW (LN_u (LN_u ln8 (by decide)) (by decide)) (by omega) ?_
    refine And.intro (fun cr6 => ?_) (fun cr6 => False.elim (absurd (bi_ne0.mp cz3) (bi_eq0.mp cr6)))
    refine And.intro ⟨by omega, Nat.le_of_ble_eq_true rfl, Nat.le_refl _, Nat.le_refl _⟩ (And.intro (Wdo_142 hW) ?_)
    have t22 : (uI (uI m9 0 0 (nI 0)) 142 0 (nI 0)).2.2 = m.2.2 := by rw [uI_22, uI_22]; exact a22
    have tI : ∀ r, r ≠ 0 → r ≠ 142 → ¬ (112 ≤ r ∧ r < 124) → mI (uI (uI m9 0 0 (nI 0)) 142 0 (nI 0)) r = mI m r := fun r h2 h3 h4 => by rw [uI_ne h3, uI_ne h2, po r h2 h4]
    have tD : ∀ f, f < 12 → mI (uI (uI m9 0 0 (nI 0)) 142 0 (nI 0)) (112 + f) = (runF (lam m a) (lam m 20) n4r n8r (mI m a 2) (-nI 1) gg DD) f := fun f hf => by rw [uI_ne (by omega), uI_ne (by omega), pr f hf]
    have t0 : mI (uI (uI m9 0 0 (nI 0)) 142 0 (nI 0)) 0 0 = nI 0 := by rw [uI_ne (by decide), uI_eq, upd_e]
    have t0k : ∀ k, k ≠ 0 → k ≠ 12 → mI (uI (uI m9 0 0 (nI 0)) 142 0 (nI 0)) 0 k = mI m 0 k := fun k hk hk2 => by rw [uI_ne (by decide), uI_eq, upd_o hk, p0k k hk2]
    have t012 : mI (uI (uI m9 0 0 (nI 0)) 142 0 (nI 0)) 0 12 = nI 0 := by rw [uI_ne (by decide), uI_eq, upd_o (by decide), p012]
    have t142 : ∀ k, k ≠ 0 → mI (uI (uI m9 0 0 (nI 0)) 142 0 (nI 0)) 142 k = mI m 142 k := fun k hk => by rw [uI_eq, upd_o hk, uI_ne (by decide), po 142 (by decide) (by decide)]
    generalize (uI (uI m9 0 0 (nI 0)) 142 0 (nI 0)) = m8 at t22 tI tD t0 t0k t012 t142 ⊢
    have hW : Wd m8.2.2 := by rw [t22]; exact hW0
    have hN : NW m8.2.2 q := by rw [t22, ← a22]; exact hN
    have hq : va_rf (mR m8 142 3) = .ref q := by rw [show mR m8 = mR m9 from congrArg (fun w : WR => w.1) (t22.trans a22.symm)]; exact hq
    have hRQ : RQD m8 q (lam m a) (lam m 20) n4r n8r := rq_of hI hSR hn2 (by omega) hn4 (by omega) hn8 (by omega) hLQ hX.2.1 h158 (fun r hr => tI r (by omega) (by omega) (by omega))
    have hlaw : mI m8 q 3 = mI m a 2 := by rw [tI q (by omega) (by omega) (by omega)]; exact hLQ.1.2.2.2.1
    have hpp := (bput_self (m := m8) (x := 148) (n := 7)).symm
    generalize (fun f => mI m8 (148 + f)) = DE9 at hpp
    rw [hpp]
    refine D277 (g0 := gg) (D := DD) (by omega) hW hN hq hRQ (fun ER hFE => ?_)
    clear hpp
    rw [hlaw] at hFE
    have s22 : (bput m8 148 7 ER).2.2 = m8.2.2 := bput_22
    have sI : ∀ r, r < 148 ∨ 155 ≤ r → mI (bput m8 148 7 ER) r = mI m8 r := fun r hr => by
      rcases Nat.lt_or_ge r 148 with z9 | z9
      · exact bput_lo (by omega)
      · exact bput_hi (by omega)
    have sE : ∀ f, f < 7 → mI (bput m8 148 7 ER) (148 + f) = ER f := fun f hf => bput_r hf
    generalize bput m8 148 7 ER = m7 at s22 sI sE ⊢
    have hW : Wd m7.2.2 := by rw [s22]; exact hW
    have hN : NW m7.2.2 q := by rw [s22]; exact hN
    have hq : va_rf (mR m7 142 3) = .ref q := by rw [show mR m7 = mR m8 from congrArg (fun w : WR => w.1) s22]; exact hq
    skip
    refine And.intro (Wdo_142 hW) (Exists.intro _ (And.intro (Wdr_142_27 hW) ?_))
    refine And.intro (Wdi_152 hW (vi rfl (by omega))) ?_
    rw [nI_clamp (show p < 2 ^ 31 by omega)]
    refine And.intro ⟨by omega, Nat.le_of_ble_eq_true rfl, Nat.le_refl _, Nat.le_refl _⟩ (And.intro (Wdo_142 hW) ?_)
    refine C202 (m := m7) hW ?_
    refine And.intro ⟨rfl, trivial, Nat.le_refl _, Nat.le_refl _⟩ ?_
    have hfp := ((hFE p hp8).1 ⟨hp, Or.inl rfl⟩)
    have hval : mI m7 152 p = mI m9 (112 + 7) p := by rw [sE 4 (by decide), pr 7 (by decide)]; exact hfp.1.2.2.2.2.1
    rw [hval]
    have y0 : ∀ r, r ≠ 142 → mI (uI (uI m7 142 1 (nI 0)) 142 2 (-nI 1)) r = mI m7 r := fun r g => by rw [uI_ne g, uI_ne g]
    have x0 : ∀ x, x ≠ 0 → x ≠ 1 → x ≠ 2 → mI (uI (uI m7 142 1 (nI 0)) 142 2 (-nI 1)) 142 x = mI m 142 x := fun x g0 g1 g2 => by rw [uI_eq, upd_o g2, uI_eq, upd_o g1, sI 142 (by decide), t142 x g0]
    have y00 : mI (uI (uI m7 142 1 (nI 0)) 142 2 (-nI 1)) 0 0 = nI 0 := by rw [y0 0 (by decide), sI 0 (by decide), t0]
    exact h2 _ (Rel_day (g := gg) (D := DD) hW0 hz hA hX (by rw [uI_22, uI_22, s22]; exact t22) (fun r g1 g2 g3 g4 => by rw [y0 r g3, sI r (Classical.byContradiction fun z9 => g1 (by unfold scr; omega)), tI r g2 g3 (by omega)]) (fun _ => by rw [y0 140 (by decide), sI 140 (by decide), tI 140 (by decide) (by decide) (by decide)]) hn4 (by omega) hn8 (by omega) (by rw [y0 0 (by decide), sI 0 (by decide)]; exact t012) (fun f hf => by rw [y0 (112 + f) (by omega), sI (112 + f) (by omega)]; exact tD f hf) (x0 6 (by decide) (by decide) (by decide)) (x0 21 (by decide) (by decide) (by decide)) (x0 22 (by decide) (by decide) (by decide)) ⟨by rw [y00, uI_eq, upd_o (by decide), uI_eq, upd_e], by rw [x0 14 (by decide) (by decide) (by decide), y0 0 (by decide), sI 0 (by decide), t0k 1 (by decide) (by decide)]; exact hS.2.1, by rw [y00, uI_eq, upd_e, if_neg (by decide)]⟩)
theorem P_altars {d : Nat} {m : Mm} {Q : Option Value → Mm → Prop} {z : Nat} {x : Int32} (hd : 16 ≤ d) (hR : Rel z m) (h : ∀ (r : Int32) m1, Wd m1.2.2 → (∀ Q2 : Option Value → Mm → Prop, (∀ m2, Rel z m2 → Q2 (some (.int r)) m2) → Cc d 0 0 282 [.ref 142, .int x] m1 Q2) → Q (some (.int r)) m1) : Cc d 0 0 138 [.ref 0, .int x] m Q := by
  obtain ⟨hW, hz, hS, a, b, hA, hX⟩ := id hR
  obtain ⟨hL, hLb, hab, ha, hb⟩ := RelA_L hW hA
  obtain ⟨n2r, hn2, bn2, ln2⟩ := RL_n (s := 2) (f := 5) hX.2.2.1 (by decide) (fun _ _ h => h.2.2.2.2.2.1)
  change n2r ≤ 6 at bn2
  obtain ⟨n4r, hn4, bn4, ln4⟩ := RL_n (s := 4) (f := 6) hX.2.2.1 (by decide) (fun _ _ h => h.2.2.2.2.2.2.1)
  change n4r ≤ 6 at bn4
  obtain ⟨n8r, hn8, bn8, ln8⟩ := RL_n (s := 8) (f := 10) hX.2.2.1 (by decide) (fun _ _ h => h.2.2.2.2.2.2.2.2.2.2.1)
  change n8r ≤ 8 at bn8
  obtain ⟨n10r, hn10, bn10, ln10⟩ := RL_n (s := 10) (f := 12) hX.2.2.1 (by decide) (fun _ _ h => h.2.2.2.2.2.2.2.2.2.2.2.2.1)
  change n10r ≤ 4 at bn10
  refine ent (n := 52) z138 (by decide) rfl (by decide) (Nat.le_of_ble_eq_true rfl) (fun sc => ?_)
  refine And.intro ⟨by omega, Nat.le_of_ble_eq_true rfl, Nat.le_refl _, Nat.le_refl _⟩ (And.intro (Wdo_0 hW) ?_)
  refine C185 (by omega) hW ha hL hn8 (by omega) ?_
  refine And.intro (fun cz3 => ?_) (fun cz3 => ?_)
  · -- 3 taken: bi (iR x n8r) = 0
    refine And.intro ⟨by omega, Nat.le_of_ble_eq_true rfl, Nat.le_refl _, Nat.le_refl _⟩ (And.intro (Wdo_0 hW) ?_)
    refine C176 hW ?_
    refine And.intro ⟨rfl, trivial, Nat.le_refl _, Nat.le_refl _⟩ ?_
    refine h _ _ hW (fun Q2 h2 => ?_)
    refine ent (n := 60) z282 (by decide) rfl (by decide) (Nat.le_of_ble_eq_true rfl) (fun sc2 => ?_)
    refine And.intro (Wdo_142 hW) ?_
    refine And.intro ⟨by omega, Nat.le_of_ble_eq_true rfl, Nat.le_refl _, Nat.le_refl _⟩ (And.intro (Wdo_142 hW) ?_)
    refine C249 (m := (uI (uI m 0 0 (nI 1)) 142 0 (nI 0))) (by omega) hW (LN_u (LN_u ln8 (by decide)) (by decide)) (by omega) ?_
    refine And.intro (fun cr6 => False.elim (absurd (bi_ne0.mp cr6) (bi_eq0.mp cz3))) (fun cr6 => ?_)
    refine And.intro ⟨by omega, Nat.le_of_ble_eq_true rfl, Nat.le_refl _, Nat.le_refl _⟩ (And.intro (Wdo_142 hW) ?_)
    refine C200 (m := (uI (uI m 0 0 (nI 1)) 142 0 (nI 0))) hW ?_
    refine And.intro ⟨rfl, trivial, Nat.le_refl _, Nat.le_refl _⟩ ?_
    exact h2 _ (Rel_ans hR (by decide))
  · -- 3 not: ¬ bi (iR x n8r) = 0
    obtain ⟨p, hp, rfl⟩ := bi_ne0.mp cz3
    obtain ⟨q, hq1⟩ := RL_1 (s := 8) hX.2.2.1 (by decide) hn8 (show 0 < n8r by omega) (by omega)
    obtain ⟨hq, w, u, ha0, ha1, hq0, hq1w, hw6, hu4, hwu, hgr⟩ := RL_q hq1
    obtain ⟨h158, hqz, hN, h3, ⟨T, hI⟩, hst, hla, hLQ, hSR⟩ := hq1
    have hq6 : mI m q 6 = nI n4r := hLQ.1.2.2.2.2.2.2.1.trans hn4
    have hq5 : mI m q 5 = nI n2r := hLQ.1.2.2.2.2.2.1.trans hn2
    have hJEG := JE_of hI hSR hn2 (by omega) hn4 (by omega) hn8 (by omega)
    refine And.intro ⟨by omega, Nat.le_of_ble_eq_true rfl, Nat.le_refl _, Nat.le_refl _⟩ (And.intro (Wdo_0 hW) ?_)
    refine C188 (n := n4r) (np := n8r) (by omega) hW ha hL hab hJEG.1 hn4 (by omega) hn8 (by omega) hX.2.2.2.2.1 (fun m9 hCU => ?_)
    obtain ⟨a22, po, p0k, p012, DD, gg, pr⟩ := hCU
    have hW0 := hW
    have hW : Wd m9.2.2 := by rw [a22]; exact hW0
    have hak8 : ∀ r, 158 ≤ r → mI m9 r = mI m r := fun r hr => po r (by omega) (by omega)
    have ln2 := LN_m ln2 a22 hak8
    have ln4 := LN_m ln4 a22 hak8
    have ln8 := LN_m ln8 a22 hak8
    have ln10 := LN_m ln10 a22 hak8
    have hq : va_rf (mR m9 142 3) = .ref q := by rw [show mR m9 = mR m from congrArg (fun w : WR => w.1) a22]; exact hq
    have hN : NW m9.2.2 q := by rw [a22]; exact hN
    have hp8 : p < 8 := by omega
    refine And.intro (DWo_0 (Wd_D1 hW)) (Exists.intro _ (And.intro (DWr_0_7 (Wd_D1 hW)) ?_))
    refine And.intro (DWi_8 (Wd_D1 hW) (vi rfl (by omega))) ?_
    rw [nI_clamp (show p < 2 ^ 31 by omega)]
    refine And.intro ⟨by omega, Nat.le_of_ble_eq_true rfl, Nat.le_refl _, Nat.le_refl _⟩ (And.intro (Wdo_0 hW) ?_)
    refine C177 hW ?_
    refine And.intro ⟨rfl, trivial, Nat.le_refl _, Nat.le_refl _⟩ ?_
    refine h _ _ hW (fun Q2 h2 => ?_)
    refine ent (n := 60) z282 (by decide) rfl (by decide) (Nat.le_of_ble_eq_true rfl) (fun sc2 => ?_)
    refine And.intro (Wdo_142 hW) ?_
    refine And.intro ⟨by omega, Nat.le_of_ble_eq_true rfl, Nat.le_refl _, Nat.le_refl _⟩ (And.intro (Wdo_142 hW) ?_)
    refine C249 (m := (uI (uI m9 0 0 (nI 0)) 142 0 (nI 0))) (by omega) hW (LN_u (LN_u ln8 (by decide)) (by decide)) (by omega) ?_
    refine And.intro (fun cr6 => ?_) (fun cr6 => False.elim (absurd (bi_ne0.mp cz3) (bi_eq0.mp cr6)))
    refine And.intro ⟨by omega, Nat.le_of_ble_eq_true rfl, Nat.le_refl _, Nat.le_refl _⟩ (And.intro (Wdo_142 hW) ?_)
    have t22 : (uI (uI m9 0 0 (nI 0)) 142 0 (nI 0)).2.2 = m.2.2 := by rw [uI_22, uI_22]; exact a22
    have tI : ∀ r, r ≠ 0 → r ≠ 142 → ¬ (112 ≤ r ∧ r < 124) → mI (uI (uI m9 0 0 (nI 0)) 142 0 (nI 0)) r = mI m r := fun r h2 h3 h4 => by rw [uI_ne h3, uI_ne h2, po r h2 h4]
    have tD : ∀ f, f < 12 → mI (uI (uI m9 0 0 (nI 0)) 142 0 (nI 0)) (112 + f) = (runF (lam m a) (lam m 20) n4r n8r (mI m a 2) (-nI 1) gg DD) f := fun f hf => by rw [uI_ne (by omega), uI_ne (by omega), pr f hf]
    have t0 : mI (uI (uI m9 0 0 (nI 0)) 142 0 (nI 0)) 0 0 = nI 0 := by rw [uI_ne (by decide), uI_eq, upd_e]
    have t0k : ∀ k, k ≠ 0 → k ≠ 12 → mI (uI (uI m9 0 0 (nI 0)) 142 0 (nI 0)) 0 k = mI m 0 k := fun k hk hk2 => by rw [uI_ne (by decide), uI_eq, upd_o hk, p0k k hk2]
    have t012 : mI (uI (uI m9 0 0 (nI 0)) 142 0 (nI 0)) 0 12 = nI 0 := by rw [uI_ne (by decide), uI_eq, upd_o (by decide), p012]
    have t142 : ∀ k, k ≠ 0 → mI (uI (uI m9 0 0 (nI 0)) 142 0 (nI 0)) 142 k = mI m 142 k := fun k hk => by rw [uI_eq, upd_o hk, uI_ne (by decide), po 142 (by decide) (by decide)]
    generalize (uI (uI m9 0 0 (nI 0)) 142 0 (nI 0)) = m8 at t22 tI tD t0 t0k t012 t142 ⊢
    have hW : Wd m8.2.2 := by rw [t22]; exact hW0
    have hN : NW m8.2.2 q := by rw [t22, ← a22]; exact hN
    have hq : va_rf (mR m8 142 3) = .ref q := by rw [show mR m8 = mR m9 from congrArg (fun w : WR => w.1) (t22.trans a22.symm)]; exact hq
    have hRQ : RQD m8 q (lam m a) (lam m 20) n4r n8r := rq_of hI hSR hn2 (by omega) hn4 (by omega) hn8 (by omega) hLQ hX.2.1 h158 (fun r hr => tI r (by omega) (by omega) (by omega))
    have hlaw : mI m8 q 3 = mI m a 2 := by rw [tI q (by omega) (by omega) (by omega)]; exact hLQ.1.2.2.2.1
    have hpp := (bput_self (m := m8) (x := 148) (n := 7)).symm
    generalize (fun f => mI m8 (148 + f)) = DE9 at hpp
    rw [hpp]
    refine D277 (g0 := gg) (D := DD) (by omega) hW hN hq hRQ (fun ER hFE => ?_)
    clear hpp
    rw [hlaw] at hFE
    have s22 : (bput m8 148 7 ER).2.2 = m8.2.2 := bput_22
    have sI : ∀ r, r < 148 ∨ 155 ≤ r → mI (bput m8 148 7 ER) r = mI m8 r := fun r hr => by
      rcases Nat.lt_or_ge r 148 with z9 | z9
      · exact bput_lo (by omega)
      · exact bput_hi (by omega)
    have sE : ∀ f, f < 7 → mI (bput m8 148 7 ER) (148 + f) = ER f := fun f hf => bput_r hf
    generalize bput m8 148 7 ER = m7 at s22 sI sE ⊢
    have hW : Wd m7.2.2 := by rw [s22]; exact hW
    have hN : NW m7.2.2 q := by rw [s22]; exact hN
    have hq : va_rf (mR m7 142 3) = .ref q := by rw [show mR m7 = mR m8 from congrArg (fun w : WR => w.1) s22]; exact hq
    skip
    refine And.intro (Wdo_142 hW) (Exists.intro _ (And.intro (Wdr_142_28 hW) ?_))
    refine And.intro (Wdi_153 hW (vi rfl (by omega))) ?_
    rw [nI_clamp (show p < 2 ^ 31 by omega)]
    refine And.intro ⟨by omega, Nat.le_of_ble_eq_true rfl, Nat.le_refl _, Nat.le_refl _⟩ (And.intro (Wdo_142 hW) ?_)
    refine C202 (m := m7) hW ?_
    refine And.intro ⟨rfl, trivial, Nat.le_refl _, Nat.le_refl _⟩ ?_
    have hfp := ((hFE p hp8).1 ⟨hp, Or.inl rfl⟩)
    have hval : mI m7 153 p = mI m9 (112 + 8) p := by rw [sE 5 (by decide), pr 8 (by decide)]; exact hfp.1.2.2.2.2.2.1
    rw [hval]
    have y0 : ∀ r, r ≠ 142 → mI (uI (uI m7 142 1 (nI 0)) 142 2 (-nI 1)) r = mI m7 r := fun r g => by rw [uI_ne g, uI_ne g]
    have x0 : ∀ x, x ≠ 0 → x ≠ 1 → x ≠ 2 → mI (uI (uI m7 142 1 (nI 0)) 142 2 (-nI 1)) 142 x = mI m 142 x := fun x g0 g1 g2 => by rw [uI_eq, upd_o g2, uI_eq, upd_o g1, sI 142 (by decide), t142 x g0]
    have y00 : mI (uI (uI m7 142 1 (nI 0)) 142 2 (-nI 1)) 0 0 = nI 0 := by rw [y0 0 (by decide), sI 0 (by decide), t0]
    exact h2 _ (Rel_day (g := gg) (D := DD) hW0 hz hA hX (by rw [uI_22, uI_22, s22]; exact t22) (fun r g1 g2 g3 g4 => by rw [y0 r g3, sI r (Classical.byContradiction fun z9 => g1 (by unfold scr; omega)), tI r g2 g3 (by omega)]) (fun _ => by rw [y0 140 (by decide), sI 140 (by decide), tI 140 (by decide) (by decide) (by decide)]) hn4 (by omega) hn8 (by omega) (by rw [y0 0 (by decide), sI 0 (by decide)]; exact t012) (fun f hf => by rw [y0 (112 + f) (by omega), sI (112 + f) (by omega)]; exact tD f hf) (x0 6 (by decide) (by decide) (by decide)) (x0 21 (by decide) (by decide) (by decide)) (x0 22 (by decide) (by decide) (by decide)) ⟨by rw [y00, uI_eq, upd_o (by decide), uI_eq, upd_e], by rw [x0 14 (by decide) (by decide) (by decide), y0 0 (by decide), sI 0 (by decide), t0k 1 (by decide) (by decide)]; exact hS.2.1, by rw [y00, uI_eq, upd_e, if_neg (by decide)]⟩)
theorem D284 {d : Nat} {m : Mm} {Q : Option Value → Mm → Prop} {q p : Nat} {due : Nat → Int32} (hW : Wd m.2.2) (hN : NW m.2.2 q) (hq : va_rf (mR m 142 3) = .ref q) (hp : p < 8) (hdu : mI m (q + 12) p = due p) (hQ : Q (some (.int (ltF (mI m 150) (mI m 151) due p))) m)  : Cc d 0 0 284 [.ref 142, .int (nI p)] m Q := by
  refine ent (n := 58) z284 (by decide) rfl (by decide) (Nat.le_of_ble_eq_true rfl) (fun sc => ?_)
  refine And.intro (Wdo_142 hW) (Exists.intro _ (And.intro (Wdr_142_25 hW) ?_))
  refine And.intro (Wdi_150 hW (vi rfl (by omega))) ?_
  rw [nI_clamp (show p < 2 ^ 31 by omega)]
  refine And.intro (fun cz4 => ?_) (fun cz4 => ?_)
  · -- 4 taken: ¬ mI m 150 p = 0
    refine And.intro ⟨rfl, Or.inl rfl, Nat.le_refl _, Nat.le_refl _⟩ ?_
    unfold ltF at hQ
    rw [if_neg cz4] at hQ
    exact hQ
  · -- 4 not: mI m 150 p = 0
    refine And.intro (Wdo_142 hW) (Exists.intro _ (And.intro (Wdr_142_26 hW) ?_))
    refine And.intro (Wdi_151 hW (vi rfl (by omega))) ?_
    rw [nI_clamp (show p < 2 ^ 31 by omega)]
    refine And.intro (Wdo_142 hW) (Exists.intro _ (And.intro hq ?_))
    refine And.intro (NWo_0 hN) (Exists.intro _ (And.intro (NWr_0_28 hN) ?_))
    refine And.intro (NWi_12 hN (vi rfl (by omega))) ?_
    rw [nI_clamp (show p < 2 ^ 31 by omega)]
    rw [hdu]
    refine And.intro (fun cz14 => ?_) (fun cz14 => ?_)
    · -- 14 taken: mI m 151 p ≤ due p
      refine And.intro ⟨rfl, Or.inl rfl, Nat.le_refl _, Nat.le_refl _⟩ ?_
      unfold ltF at hQ
      rw [if_pos cz4, if_pos cz14] at hQ
      exact hQ
    · -- 14 not: ¬ mI m 151 p ≤ due p
      refine And.intro ⟨rfl, Or.inr rfl, Nat.le_refl _, Nat.le_refl _⟩ ?_
      unfold ltF at hQ
      rw [if_pos cz4, if_neg cz14] at hQ
      exact hQ
theorem lt_bi {f g h : Nat → Int32} {p : Nat} : ltF f g h p = bi (f p = 0 ∧ ¬ g p ≤ h p) := by
  unfold ltF
  split
  · rename_i h1
    split
    · rename_i h2; rw [bi_f (fun z => z.2 h2)]
    · rename_i h2; rw [bi_t ⟨h1, h2⟩]
  · rename_i h1; rw [bi_f (fun z => h1 z.1)]
theorem lt_01 {f g h : Nat → Int32} {p : Nat} : ltF f g h p = nI 0 ∨ ltF f g h p = nI 1 := by
  unfold ltF
  split
  · split
    · exact Or.inl rfl
    · exact Or.inr rfl
  · exact Or.inl rfl
theorem P_late {d : Nat} {m : Mm} {Q : Option Value → Mm → Prop} {z : Nat} {x : Int32} (hd : 16 ≤ d) (hR : Rel z m) (h : ∀ (r : Int32) m1, Wd m1.2.2 → (∀ Q2 : Option Value → Mm → Prop, (∀ m2, Rel z m2 → Q2 (some (.int r)) m2) → Cc d 0 0 285 [.ref 142, .int x] m1 Q2) → Q (some (.int r)) m1) : Cc d 0 0 140 [.ref 0, .int x] m Q := by
  obtain ⟨hW, hz, hS, a, b, hA, hX⟩ := id hR
  obtain ⟨hL, hLb, hab, ha, hb⟩ := RelA_L hW hA
  obtain ⟨n2r, hn2, bn2, ln2⟩ := RL_n (s := 2) (f := 5) hX.2.2.1 (by decide) (fun _ _ h => h.2.2.2.2.2.1)
  change n2r ≤ 6 at bn2
  obtain ⟨n4r, hn4, bn4, ln4⟩ := RL_n (s := 4) (f := 6) hX.2.2.1 (by decide) (fun _ _ h => h.2.2.2.2.2.2.1)
  change n4r ≤ 6 at bn4
  obtain ⟨n8r, hn8, bn8, ln8⟩ := RL_n (s := 8) (f := 10) hX.2.2.1 (by decide) (fun _ _ h => h.2.2.2.2.2.2.2.2.2.2.1)
  change n8r ≤ 8 at bn8
  obtain ⟨n10r, hn10, bn10, ln10⟩ := RL_n (s := 10) (f := 12) hX.2.2.1 (by decide) (fun _ _ h => h.2.2.2.2.2.2.2.2.2.2.2.2.1)
  change n10r ≤ 4 at bn10
  refine ent (n := 52) z140 (by decide) rfl (by decide) (Nat.le_of_ble_eq_true rfl) (fun sc => ?_)
  refine And.intro ⟨by omega, Nat.le_of_ble_eq_true rfl, Nat.le_refl _, Nat.le_refl _⟩ (And.intro (Wdo_0 hW) ?_)
  refine C185 (by omega) hW ha hL hn8 (by omega) ?_
  refine And.intro (fun cz3 => ?_) (fun cz3 => ?_)
  · -- 3 taken: bi (iR x n8r) = 0
    refine And.intro ⟨by omega, Nat.le_of_ble_eq_true rfl, Nat.le_refl _, Nat.le_refl _⟩ (And.intro (Wdo_0 hW) ?_)
    refine C176 hW ?_
    refine And.intro ⟨rfl, trivial, Nat.le_refl _, Nat.le_refl _⟩ ?_
    refine h _ _ hW (fun Q2 h2 => ?_)
    refine ent (n := 66) z285 (by decide) rfl (by decide) (Nat.le_of_ble_eq_true rfl) (fun sc2 => ?_)
    refine And.intro (Wdo_142 hW) ?_
    refine And.intro ⟨by omega, Nat.le_of_ble_eq_true rfl, Nat.le_refl _, Nat.le_refl _⟩ (And.intro (Wdo_142 hW) ?_)
    refine C249 (m := (uI (uI m 0 0 (nI 1)) 142 0 (nI 0))) (by omega) hW (LN_u (LN_u ln8 (by decide)) (by decide)) (by omega) ?_
    refine And.intro (fun cr6 => False.elim (absurd (bi_ne0.mp cr6) (bi_eq0.mp cz3))) (fun cr6 => ?_)
    refine And.intro ⟨by omega, Nat.le_of_ble_eq_true rfl, Nat.le_refl _, Nat.le_refl _⟩ (And.intro (Wdo_142 hW) ?_)
    refine C200 (m := (uI (uI m 0 0 (nI 1)) 142 0 (nI 0))) hW ?_
    refine And.intro ⟨rfl, trivial, Nat.le_refl _, Nat.le_refl _⟩ ?_
    exact h2 _ (Rel_ans hR (by decide))
  · -- 3 not: ¬ bi (iR x n8r) = 0
    obtain ⟨p, hp, rfl⟩ := bi_ne0.mp cz3
    obtain ⟨q, hq1⟩ := RL_1 (s := 8) hX.2.2.1 (by decide) hn8 (show 0 < n8r by omega) (by omega)
    obtain ⟨hq, w, u, ha0, ha1, hq0, hq1w, hw6, hu4, hwu, hgr⟩ := RL_q hq1
    obtain ⟨h158, hqz, hN, h3, ⟨T, hI⟩, hst, hla, hLQ, hSR⟩ := hq1
    have hq6 : mI m q 6 = nI n4r := hLQ.1.2.2.2.2.2.2.1.trans hn4
    have hq5 : mI m q 5 = nI n2r := hLQ.1.2.2.2.2.2.1.trans hn2
    have hJEG := JE_of hI hSR hn2 (by omega) hn4 (by omega) hn8 (by omega)
    refine And.intro ⟨by omega, Nat.le_of_ble_eq_true rfl, Nat.le_refl _, Nat.le_refl _⟩ (And.intro (Wdo_0 hW) ?_)
    refine C188 (n := n4r) (np := n8r) (by omega) hW ha hL hab hJEG.1 hn4 (by omega) hn8 (by omega) hX.2.2.2.2.1 (fun m9 hCU => ?_)
    obtain ⟨a22, po, p0k, p012, DD, gg, pr⟩ := hCU
    have hW0 := hW
    have hW : Wd m9.2.2 := by rw [a22]; exact hW0
    have hak8 : ∀ r, 158 ≤ r → mI m9 r = mI m r := fun r hr => po r (by omega) (by omega)
    have ln2 := LN_m ln2 a22 hak8
    have ln4 := LN_m ln4 a22 hak8
    have ln8 := LN_m ln8 a22 hak8
    have ln10 := LN_m ln10 a22 hak8
    have hq : va_rf (mR m9 142 3) = .ref q := by rw [show mR m9 = mR m from congrArg (fun w : WR => w.1) a22]; exact hq
    have hN : NW m9.2.2 q := by rw [a22]; exact hN
    have hp8 : p < 8 := by omega
    refine And.intro ⟨by omega, Nat.le_of_ble_eq_true rfl, Nat.le_refl _, Nat.le_refl _⟩ (And.intro (DWo_0 (Wd_D1 hW)) ?_)
    refine C13 (x := 112) (p := p) (Wd_D1 hW) hp8 ?_
    refine And.intro ⟨by omega, Nat.le_of_ble_eq_true rfl, Nat.le_refl _, Nat.le_refl _⟩ ?_
    rw [lt_bi]
    refine C180 ?_
    rw [← lt_bi]
    refine And.intro ⟨by omega, Nat.le_of_ble_eq_true rfl, Nat.le_refl _, Nat.le_refl _⟩ (And.intro (Wdo_0 hW) ?_)
    refine C177 hW ?_
    refine And.intro ⟨rfl, trivial, Nat.le_refl _, Nat.le_refl _⟩ ?_
    refine h _ _ hW (fun Q2 h2 => ?_)
    refine ent (n := 66) z285 (by decide) rfl (by decide) (Nat.le_of_ble_eq_true rfl) (fun sc2 => ?_)
    refine And.intro (Wdo_142 hW) ?_
    refine And.intro ⟨by omega, Nat.le_of_ble_eq_true rfl, Nat.le_refl _, Nat.le_refl _⟩ (And.intro (Wdo_142 hW) ?_)
    refine C249 (m := (uI (uI m9 0 0 (nI 0)) 142 0 (nI 0))) (by omega) hW (LN_u (LN_u ln8 (by decide)) (by decide)) (by omega) ?_
    refine And.intro (fun cr6 => ?_) (fun cr6 => False.elim (absurd (bi_ne0.mp cz3) (bi_eq0.mp cr6)))
    refine And.intro ⟨by omega, Nat.le_of_ble_eq_true rfl, Nat.le_refl _, Nat.le_refl _⟩ (And.intro (Wdo_142 hW) ?_)
    have t22 : (uI (uI m9 0 0 (nI 0)) 142 0 (nI 0)).2.2 = m.2.2 := by rw [uI_22, uI_22]; exact a22
    have tI : ∀ r, r ≠ 0 → r ≠ 142 → ¬ (112 ≤ r ∧ r < 124) → mI (uI (uI m9 0 0 (nI 0)) 142 0 (nI 0)) r = mI m r := fun r h2 h3 h4 => by rw [uI_ne h3, uI_ne h2, po r h2 h4]
    have tD : ∀ f, f < 12 → mI (uI (uI m9 0 0 (nI 0)) 142 0 (nI 0)) (112 + f) = (runF (lam m a) (lam m 20) n4r n8r (mI m a 2) (-nI 1) gg DD) f := fun f hf => by rw [uI_ne (by omega), uI_ne (by omega), pr f hf]
    have t0 : mI (uI (uI m9 0 0 (nI 0)) 142 0 (nI 0)) 0 0 = nI 0 := by rw [uI_ne (by decide), uI_eq, upd_e]
    have t0k : ∀ k, k ≠ 0 → k ≠ 12 → mI (uI (uI m9 0 0 (nI 0)) 142 0 (nI 0)) 0 k = mI m 0 k := fun k hk hk2 => by rw [uI_ne (by decide), uI_eq, upd_o hk, p0k k hk2]
    have t012 : mI (uI (uI m9 0 0 (nI 0)) 142 0 (nI 0)) 0 12 = nI 0 := by rw [uI_ne (by decide), uI_eq, upd_o (by decide), p012]
    have t142 : ∀ k, k ≠ 0 → mI (uI (uI m9 0 0 (nI 0)) 142 0 (nI 0)) 142 k = mI m 142 k := fun k hk => by rw [uI_eq, upd_o hk, uI_ne (by decide), po 142 (by decide) (by decide)]
    generalize (uI (uI m9 0 0 (nI 0)) 142 0 (nI 0)) = m8 at t22 tI tD t0 t0k t012 t142 ⊢
    have hW : Wd m8.2.2 := by rw [t22]; exact hW0
    have hN : NW m8.2.2 q := by rw [t22, ← a22]; exact hN
    have hq : va_rf (mR m8 142 3) = .ref q := by rw [show mR m8 = mR m9 from congrArg (fun w : WR => w.1) (t22.trans a22.symm)]; exact hq
    have hRQ : RQD m8 q (lam m a) (lam m 20) n4r n8r := rq_of hI hSR hn2 (by omega) hn4 (by omega) hn8 (by omega) hLQ hX.2.1 h158 (fun r hr => tI r (by omega) (by omega) (by omega))
    have hlaw : mI m8 q 3 = mI m a 2 := by rw [tI q (by omega) (by omega) (by omega)]; exact hLQ.1.2.2.2.1
    have hpp := (bput_self (m := m8) (x := 148) (n := 7)).symm
    generalize (fun f => mI m8 (148 + f)) = DE9 at hpp
    rw [hpp]
    refine D277 (g0 := gg) (D := DD) (by omega) hW hN hq hRQ (fun ER hFE => ?_)
    clear hpp
    rw [hlaw] at hFE
    have s22 : (bput m8 148 7 ER).2.2 = m8.2.2 := bput_22
    have sI : ∀ r, r < 148 ∨ 155 ≤ r → mI (bput m8 148 7 ER) r = mI m8 r := fun r hr => by
      rcases Nat.lt_or_ge r 148 with z9 | z9
      · exact bput_lo (by omega)
      · exact bput_hi (by omega)
    have sE : ∀ f, f < 7 → mI (bput m8 148 7 ER) (148 + f) = ER f := fun f hf => bput_r hf
    generalize bput m8 148 7 ER = m7 at s22 sI sE ⊢
    have hW : Wd m7.2.2 := by rw [s22]; exact hW
    have hN : NW m7.2.2 q := by rw [s22]; exact hN
    have hq : va_rf (mR m7 142 3) = .ref q := by rw [show mR m7 = mR m8 from congrArg (fun w : WR => w.1) s22]; exact hq
    skip
    refine And.intro ⟨by omega, Nat.le_of_ble_eq_true rfl, Nat.le_refl _, Nat.le_refl _⟩ (And.intro (Wdo_142 hW) ?_)
    have hfp := ((hFE p hp8).1 ⟨hp, Or.inl rfl⟩)
    have hdue : mI m7 (q + 12) p = mI m9 (112 + 3) p := by
      rw [sI (q + 12) (by omega), tI (q + 12) (by omega) (by omega) (by omega), pr 3 (by decide), hfp.2]
      exact (hLQ.2.2.2.2.2.2.2.2.1 p (show p < nv (mI m (a + 1) 8) by rw [hn8, nv_nI (by omega)]; exact hp)).2.2.1
    refine D284 (m := m7) (q := q) (p := p) (due := mI m9 (112 + 3)) hW hN hq hp8 hdue ?_
    have hlt : ltF (mI m7 150) (mI m7 151) (mI m9 (112 + 3)) p = ltF (mI m9 (112 + 1)) (mI m9 (112 + 2)) (mI m9 (112 + 3)) p := by
      unfold ltF
      rw [show mI m7 150 p = mI m9 (112 + 1) p from by rw [sE 2 (by decide), pr 1 (by decide)]; exact hfp.1.2.2.1, show mI m7 151 p = mI m9 (112 + 2) p from by rw [sE 3 (by decide), pr 2 (by decide)]; exact hfp.1.2.2.2.1]
    rw [hlt]
    refine And.intro (fun cr17 => ?_) (fun cr17 => ?_)
    · -- 17 taken: ltF (mI m9 (112 + 1)) (mI m9 (112 + 2)) (mI m9 (112 + 3)) p = 0
      refine And.intro ⟨by omega, Nat.le_of_ble_eq_true rfl, Nat.le_refl _, Nat.le_refl _⟩ (And.intro (Wdo_142 hW) ?_)
      refine C202 (m := m7) hW ?_
      refine And.intro ⟨rfl, trivial, Nat.le_refl _, Nat.le_refl _⟩ ?_
      rw [show ltF (mI m9 (112 + 1)) (mI m9 (112 + 2)) (mI m9 (112 + 3)) p = nI 0 from cr17] at h2
      have y0 : ∀ r, r ≠ 142 → mI (uI (uI m7 142 1 (nI 0)) 142 2 (-nI 1)) r = mI m7 r := fun r g => by rw [uI_ne g, uI_ne g]
      have x0 : ∀ x, x ≠ 0 → x ≠ 1 → x ≠ 2 → mI (uI (uI m7 142 1 (nI 0)) 142 2 (-nI 1)) 142 x = mI m 142 x := fun x g0 g1 g2 => by rw [uI_eq, upd_o g2, uI_eq, upd_o g1, sI 142 (by decide), t142 x g0]
      have y00 : mI (uI (uI m7 142 1 (nI 0)) 142 2 (-nI 1)) 0 0 = nI 0 := by rw [y0 0 (by decide), sI 0 (by decide), t0]
      exact h2 _ (Rel_day (g := gg) (D := DD) hW0 hz hA hX (by rw [uI_22, uI_22, s22]; exact t22) (fun r g1 g2 g3 g4 => by rw [y0 r g3, sI r (Classical.byContradiction fun z9 => g1 (by unfold scr; omega)), tI r g2 g3 (by omega)]) (fun _ => by rw [y0 140 (by decide), sI 140 (by decide), tI 140 (by decide) (by decide) (by decide)]) hn4 (by omega) hn8 (by omega) (by rw [y0 0 (by decide), sI 0 (by decide)]; exact t012) (fun f hf => by rw [y0 (112 + f) (by omega), sI (112 + f) (by omega)]; exact tD f hf) (x0 6 (by decide) (by decide) (by decide)) (x0 21 (by decide) (by decide) (by decide)) (x0 22 (by decide) (by decide) (by decide)) ⟨by rw [y00, uI_eq, upd_o (by decide), uI_eq, upd_e], by rw [x0 14 (by decide) (by decide) (by decide), y0 0 (by decide), sI 0 (by decide), t0k 1 (by decide) (by decide)]; exact hS.2.1, by rw [y00, uI_eq, upd_e, if_neg (by decide)]⟩)
    · -- 17 not: ¬ ltF (mI m9 (112 + 1)) (mI m9 (112 + 2)) (mI m9 (112 + 3)) p = 0
      refine And.intro ⟨by omega, Nat.le_of_ble_eq_true rfl, Nat.le_refl _, Nat.le_refl _⟩ (And.intro (Wdo_142 hW) ?_)
      refine C202 (m := m7) hW ?_
      refine And.intro ⟨rfl, trivial, Nat.le_refl _, Nat.le_refl _⟩ ?_
      rw [show ltF (mI m9 (112 + 1)) (mI m9 (112 + 2)) (mI m9 (112 + 3)) p = nI 1 from lt_01.resolve_left cr17] at h2
      have y0 : ∀ r, r ≠ 142 → mI (uI (uI m7 142 1 (nI 0)) 142 2 (-nI 1)) r = mI m7 r := fun r g => by rw [uI_ne g, uI_ne g]
      have x0 : ∀ x, x ≠ 0 → x ≠ 1 → x ≠ 2 → mI (uI (uI m7 142 1 (nI 0)) 142 2 (-nI 1)) 142 x = mI m 142 x := fun x g0 g1 g2 => by rw [uI_eq, upd_o g2, uI_eq, upd_o g1, sI 142 (by decide), t142 x g0]
      have y00 : mI (uI (uI m7 142 1 (nI 0)) 142 2 (-nI 1)) 0 0 = nI 0 := by rw [y0 0 (by decide), sI 0 (by decide), t0]
      exact h2 _ (Rel_day (g := gg) (D := DD) hW0 hz hA hX (by rw [uI_22, uI_22, s22]; exact t22) (fun r g1 g2 g3 g4 => by rw [y0 r g3, sI r (Classical.byContradiction fun z9 => g1 (by unfold scr; omega)), tI r g2 g3 (by omega)]) (fun _ => by rw [y0 140 (by decide), sI 140 (by decide), tI 140 (by decide) (by decide) (by decide)]) hn4 (by omega) hn8 (by omega) (by rw [y0 0 (by decide), sI 0 (by decide)]; exact t012) (fun f hf => by rw [y0 (112 + f) (by omega), sI (112 + f) (by omega)]; exact tD f hf) (x0 6 (by decide) (by decide) (by decide)) (x0 21 (by decide) (by decide) (by decide)) (x0 22 (by decide) (by decide) (by decide)) ⟨by rw [y00, uI_eq, upd_o (by decide), uI_eq, upd_e], by rw [x0 14 (by decide) (by decide) (by decide), y0 0 (by decide), sI 0 (by decide), t0k 1 (by decide) (by decide)]; exact hS.2.1, by rw [y00, uI_eq, upd_e, if_neg (by decide)]⟩)
theorem C188k {d : Nat} {m : Mm} {Q : Option Value → Mm → Prop} (hW : Wd m.2.2) (h12 : mI m 0 12 = nI 0) (hQ : Q (some (.ref 112)) m) : Cc d 0 0 188 [.ref 0] m Q := by
  refine ent (n := 62) z188 (by decide) rfl (by decide) (Nat.le_of_ble_eq_true rfl) (fun sc => ?_)
  refine And.intro (Wdo_0 hW) ?_
  refine And.intro (fun cz2 => ?_) (fun cz2 => False.elim (cz2 h12))
  refine And.intro (Wdo_0 hW) (Exists.intro _ (And.intro (Wdr_0_7 hW) ?_))
  refine And.intro ⟨rfl, Nat.le_refl _, Nat.le_refl _⟩ ?_
  exact hQ
theorem Rel_s8 {z : Nat} {m n : Mm} {x : Int32} (hR : Rel z m) (h22 : n.2.2 = m.2.2) (hI : ∀ r, ¬ scr r → r ≠ 0 → r ≠ 142 → mI n r = mI m r) (h140 : mI m 139 4 = nI 1 → mI n 140 = mI m 140) (h0 : mI n 0 0 = x) (h0k : ∀ k, k ≠ 0 → mI n 0 k = mI m 0 k) (h142 : ∀ k, k ≠ 0 → mI n 142 k = mI m 142 k) (hx : ¬ x = nI 4) : Rel z (uI (uI n 142 1 x) 142 2 (-nI 1)) := by
  have x0 : ∀ r, r ≠ 0 → r ≠ 1 → r ≠ 2 → mI (uI (uI n 142 1 x) 142 2 (-nI 1)) 142 r = mI m 142 r := fun r g0 g1 g2 => by rw [uI_eq, upd_o g2, uI_eq, upd_o g1, h142 r g0]
  have y0 : ∀ r, r ≠ 142 → mI (uI (uI n 142 1 x) 142 2 (-nI 1)) r = mI n r := fun r g => by rw [uI_ne g, uI_ne g]
  exact Rel_fin (x := x) hR (by rw [uI_22, uI_22]; exact h22) (fun r g1 g2 g3 => (y0 r g3).trans (hI r g1 g2 g3)) (fun z9 => (y0 140 (by decide)).trans (h140 z9)) (by rw [y0 0 (by decide)]; exact h0) (by rw [y0 0 (by decide)]; exact h0k 1 (by decide)) (by rw [y0 0 (by decide)]; exact h0k 12 (by decide)) (by rw [uI_eq, upd_o (by decide), uI_eq, upd_e]) (by rw [uI_eq, upd_e]) (x0 14 (by decide) (by decide) (by decide)) (x0 6 (by decide) (by decide) (by decide)) (x0 21 (by decide) (by decide) (by decide)) (x0 22 (by decide) (by decide) (by decide)) hx
theorem P_altar {d : Nat} {m : Mm} {Q : Option Value → Mm → Prop} {z : Nat} {x y : Int32} (hd : 16 ≤ d) (hR : Rel z m) (h : ∀ (r : Int32) m1, Wd m1.2.2 → (∀ Q2 : Option Value → Mm → Prop, (∀ m2, Rel z m2 → Q2 (some (.int r)) m2) → Cc d 0 0 283 [.ref 142, .int x, .int y] m1 Q2) → Q (some (.int r)) m1) : Cc d 0 0 139 [.ref 0, .int x, .int y] m Q := by
  obtain ⟨hW, hz, hS, a, b, hA, hX⟩ := id hR
  obtain ⟨hL, hLb, hab, ha, hb⟩ := RelA_L hW hA
  obtain ⟨n2r, hn2, bn2, ln2⟩ := RL_n (s := 2) (f := 5) hX.2.2.1 (by decide) (fun _ _ h => h.2.2.2.2.2.1)
  change n2r ≤ 6 at bn2
  obtain ⟨n4r, hn4, bn4, ln4⟩ := RL_n (s := 4) (f := 6) hX.2.2.1 (by decide) (fun _ _ h => h.2.2.2.2.2.2.1)
  change n4r ≤ 6 at bn4
  obtain ⟨n8r, hn8, bn8, ln8⟩ := RL_n (s := 8) (f := 10) hX.2.2.1 (by decide) (fun _ _ h => h.2.2.2.2.2.2.2.2.2.2.1)
  change n8r ≤ 8 at bn8
  obtain ⟨n10r, hn10, bn10, ln10⟩ := RL_n (s := 10) (f := 12) hX.2.2.1 (by decide) (fun _ _ h => h.2.2.2.2.2.2.2.2.2.2.2.2.1)
  change n10r ≤ 4 at bn10
  refine ent (n := 70) z139 (by decide) rfl (by decide) (Nat.le_of_ble_eq_true rfl) (fun sc => ?_)
  refine And.intro ⟨by omega, Nat.le_of_ble_eq_true rfl, Nat.le_refl _, Nat.le_refl _⟩ (And.intro (Wdo_0 hW) ?_)
  refine C185 (by omega) hW ha hL hn8 (by omega) ?_
  refine And.intro (fun cz3 => ?_) (fun cz3 => ?_)
  · -- 3 taken: bi (iR x n8r) = 0
    refine And.intro ⟨by omega, Nat.le_of_ble_eq_true rfl, Nat.le_refl _, Nat.le_refl _⟩ (And.intro (Wdo_0 hW) ?_)
    refine C176 hW ?_
    refine And.intro ⟨rfl, trivial, Nat.le_refl _, Nat.le_refl _⟩ ?_
    refine h _ _ hW (fun Q2 h2 => ?_)
    refine ent (n := 92) z283 (by decide) rfl (by decide) (Nat.le_of_ble_eq_true rfl) (fun sc2 => ?_)
    refine And.intro (Wdo_142 hW) ?_
    refine And.intro ⟨by omega, Nat.le_of_ble_eq_true rfl, Nat.le_refl _, Nat.le_refl _⟩ (And.intro (Wdo_142 hW) ?_)
    refine C249 (m := (uI (uI m 0 0 (nI 1)) 142 0 (nI 0))) (by omega) hW (LN_u (LN_u ln8 (by decide)) (by decide)) (by omega) ?_
    refine And.intro (fun cr6 => False.elim (absurd (bi_ne0.mp cr6) (bi_eq0.mp cz3))) (fun cr6 => ?_)
    refine And.intro ⟨by omega, Nat.le_of_ble_eq_true rfl, Nat.le_refl _, Nat.le_refl _⟩ (And.intro (Wdo_142 hW) ?_)
    refine C200 (m := (uI (uI m 0 0 (nI 1)) 142 0 (nI 0))) hW ?_
    refine And.intro ⟨rfl, trivial, Nat.le_refl _, Nat.le_refl _⟩ ?_
    exact h2 _ (Rel_ans hR (by decide))
  · -- 3 not: ¬ bi (iR x n8r) = 0
    obtain ⟨p, hp, rfl⟩ := bi_ne0.mp cz3
    obtain ⟨q, hq1⟩ := RL_1 (s := 8) hX.2.2.1 (by decide) hn8 (show 0 < n8r by omega) (by omega)
    obtain ⟨hq, w, u, ha0, ha1, hq0, hq1w, hw6, hu4, hwu, hgr⟩ := RL_q hq1
    obtain ⟨h158, hqz, hN, h3, ⟨T, hI⟩, hst, hla, hLQ, hSR⟩ := hq1
    have hq6 : mI m q 6 = nI n4r := hLQ.1.2.2.2.2.2.2.1.trans hn4
    have hq5 : mI m q 5 = nI n2r := hLQ.1.2.2.2.2.2.1.trans hn2
    have hJEG := JE_of hI hSR hn2 (by omega) hn4 (by omega) hn8 (by omega)
    refine And.intro (fun cz5 => ?_) (fun cz5 => ?_)
    · -- 5 taken: y < 0
      refine And.intro ⟨by omega, Nat.le_of_ble_eq_true rfl, Nat.le_refl _, Nat.le_refl _⟩ (And.intro (Wdo_0 hW) ?_)
      refine C176 hW ?_
      refine And.intro ⟨rfl, trivial, Nat.le_refl _, Nat.le_refl _⟩ ?_
      refine h _ _ hW (fun Q2 h2 => ?_)
      refine ent (n := 92) z283 (by decide) rfl (by decide) (Nat.le_of_ble_eq_true rfl) (fun sc2 => ?_)
      refine And.intro (Wdo_142 hW) ?_
      refine And.intro ⟨by omega, Nat.le_of_ble_eq_true rfl, Nat.le_refl _, Nat.le_refl _⟩ (And.intro (Wdo_142 hW) ?_)
      refine C249 (m := (uI (uI m 0 0 (nI 1)) 142 0 (nI 0))) (by omega) hW (LN_u (LN_u ln8 (by decide)) (by decide)) (by omega) ?_
      refine And.intro (fun cr6 => ?_) (fun cr6 => False.elim (absurd (bi_ne0.mp cz3) (bi_eq0.mp cr6)))
      refine And.intro ⟨by omega, Nat.le_of_ble_eq_true rfl, Nat.le_refl _, Nat.le_refl _⟩ (And.intro (Wdo_142 hW) ?_)
      have t22 : (uI (uI m 0 0 (nI 1)) 142 0 (nI 0)).2.2 = m.2.2 := by rw [uI_22, uI_22]
      have tI : ∀ r, r ≠ 0 → r ≠ 142 → mI (uI (uI m 0 0 (nI 1)) 142 0 (nI 0)) r = mI m r := fun r h2 h3 => by rw [uI_ne h3, uI_ne h2]
      have t0 : mI (uI (uI m 0 0 (nI 1)) 142 0 (nI 0)) 0 0 = nI 1 := by rw [uI_ne (by decide), uI_eq, upd_e]
      have t0k : ∀ k, k ≠ 0 → mI (uI (uI m 0 0 (nI 1)) 142 0 (nI 0)) 0 k = mI m 0 k := fun k hk => by rw [uI_ne (by decide), uI_eq, upd_o hk]
      have t142 : ∀ k, k ≠ 0 → mI (uI (uI m 0 0 (nI 1)) 142 0 (nI 0)) 142 k = mI m 142 k := fun k hk => by rw [uI_eq, upd_o hk, uI_ne (by decide)]
      generalize (uI (uI m 0 0 (nI 1)) 142 0 (nI 0)) = m8 at t22 tI t0 t0k t142 ⊢
      have hW0 := hW
      have hW : Wd m8.2.2 := by rw [t22]; exact hW0
      have hN : NW m8.2.2 q := by rw [t22]; exact hN
      have hq : va_rf (mR m8 142 3) = .ref q := by rw [show mR m8 = mR m from congrArg (fun w : WR => w.1) t22]; exact hq
      have hRQ : RQD m8 q (lam m a) (lam m 20) n4r n8r := rq_of hI hSR hn2 (by omega) hn4 (by omega) hn8 (by omega) hLQ hX.2.1 h158 (fun r hr => tI r (by omega) (by omega))
      have hpp := (bput_self (m := m8) (x := 148) (n := 7)).symm
      generalize (fun f => mI m8 (148 + f)) = DE9 at hpp
      rw [hpp]
      refine D277 (g0 := 0) (D := fun _ _ => 0) (by omega) hW hN hq hRQ (fun ER _ => ?_)
      clear hpp
      have s22 : (bput m8 148 7 ER).2.2 = m8.2.2 := bput_22
      have sI : ∀ r, r < 148 ∨ 155 ≤ r → mI (bput m8 148 7 ER) r = mI m8 r := fun r hr => by
        rcases Nat.lt_or_ge r 148 with z9 | z9
        · exact bput_lo (by omega)
        · exact bput_hi (by omega)
      have sE : ∀ f, f < 7 → mI (bput m8 148 7 ER) (148 + f) = ER f := fun f hf => bput_r hf
      generalize bput m8 148 7 ER = m7 at s22 sI sE ⊢
      have hW : Wd m7.2.2 := by rw [s22]; exact hW
      have hN : NW m7.2.2 q := by rw [s22]; exact hN
      have hq : va_rf (mR m7 142 3) = .ref q := by rw [show mR m7 = mR m8 from congrArg (fun w : WR => w.1) s22]; exact hq
      refine And.intro (fun cr14 => ?_) (fun cr14 => False.elim (absurd (cz5) cr14))
      refine And.intro ⟨by omega, Nat.le_of_ble_eq_true rfl, Nat.le_refl _, Nat.le_refl _⟩ (And.intro (Wdo_142 hW) ?_)
      refine C200 (m := m7) hW ?_
      refine And.intro ⟨rfl, trivial, Nat.le_refl _, Nat.le_refl _⟩ ?_
      exact h2 _ (Rel_s8 hR (s22.trans t22) (fun r g1 g2 g3 => (sI r (Classical.byContradiction fun z9 => g1 (by unfold scr; omega))).trans (tI r g2 g3)) (fun _ => (sI 140 (by decide)).trans (tI 140 (by decide) (by decide))) (by rw [sI 0 (by decide)]; exact t0) (fun k hk => by rw [sI 0 (by decide)]; exact t0k k hk) (fun k hk => by rw [sI 142 (by decide)]; exact t142 k hk) (by decide))
    · -- 5 not: ¬ y < 0
      refine And.intro ⟨by omega, Nat.le_of_ble_eq_true rfl, Nat.le_refl _, Nat.le_refl _⟩ (And.intro (Wdo_0 hW) ?_)
      refine C188 (n := n4r) (np := n8r) (by omega) hW ha hL hab hJEG.1 hn4 (by omega) hn8 (by omega) hX.2.2.2.2.1 (fun m9 hCU => ?_)
      obtain ⟨a22, po, p0k, p012, DD, gg, pr⟩ := hCU
      have hW0 := hW
      have hW : Wd m9.2.2 := by rw [a22]; exact hW0
      have hak8 : ∀ r, 158 ≤ r → mI m9 r = mI m r := fun r hr => po r (by omega) (by omega)
      have ln2 := LN_m ln2 a22 hak8
      have ln4 := LN_m ln4 a22 hak8
      have ln8 := LN_m ln8 a22 hak8
      have ln10 := LN_m ln10 a22 hak8
      have hq : va_rf (mR m9 142 3) = .ref q := by rw [show mR m9 = mR m from congrArg (fun w : WR => w.1) a22]; exact hq
      have hN : NW m9.2.2 q := by rw [a22]; exact hN
      have hp8 : p < 8 := by omega
      refine And.intro (DWo_0 (Wd_D1 hW)) (Exists.intro _ (And.intro (DWr_0_7 (Wd_D1 hW)) ?_))
      refine And.intro (DWi_8 (Wd_D1 hW) (vi rfl (by omega))) ?_
      rw [nI_clamp (show p < 2 ^ 31 by omega)]
      refine And.intro (fun cz12 => ?_) (fun cz12 => ?_)
      · -- 12 taken: y < mI m9 (112 + 8) p
        obtain ⟨Eu, hEu⟩ := FE_ex (Λ := lam m a) (Ψ := lam m 20) (D := DD) (n := n4r) (np := n8r) (g0 := gg) (l := mI m a 2) (w := -nI 1) hJEG.1 (by omega) (fun z => absurd rfl z)
        obtain ⟨-, -, -, -, -, -, kk, bb, yy1, yy2, yy3, -⟩ := ((hEu p hp8).1 ⟨hp, Or.inl rfl⟩).1
        have hiR := iR_lt0 (k := kk) cz5 (by rw [← yy3, ← pr 8 (by decide)]; exact cz12) (by omega)
        obtain ⟨i9, hi9, rfl⟩ := hiR
        refine And.intro ⟨by omega, Nat.le_of_ble_eq_true rfl, Nat.le_refl _, Nat.le_refl _⟩ (And.intro (Wdo_0 hW) ?_)
        refine C188k hW p012 ?_
        refine And.intro ⟨by omega, Nat.le_of_ble_eq_true rfl, Nat.le_refl _, Nat.le_refl _⟩ (And.intro (DWo_0 (Wd_D1 hW)) ?_)
        refine C14 (x := 112) (p := p) (i := i9) (Wd_D1 hW) hp8 (by omega) ?_
        refine And.intro ⟨by omega, Nat.le_of_ble_eq_true rfl, Nat.le_refl _, Nat.le_refl _⟩ (And.intro (Wdo_0 hW) ?_)
        refine C177 hW ?_
        refine And.intro ⟨rfl, trivial, Nat.le_refl _, Nat.le_refl _⟩ ?_
        refine h _ _ hW (fun Q2 h2 => ?_)
        refine ent (n := 92) z283 (by decide) rfl (by decide) (Nat.le_of_ble_eq_true rfl) (fun sc2 => ?_)
        refine And.intro (Wdo_142 hW) ?_
        refine And.intro ⟨by omega, Nat.le_of_ble_eq_true rfl, Nat.le_refl _, Nat.le_refl _⟩ (And.intro (Wdo_142 hW) ?_)
        refine C249 (m := (uI (uI m9 0 0 (nI 0)) 142 0 (nI 0))) (by omega) hW (LN_u (LN_u ln8 (by decide)) (by decide)) (by omega) ?_
        refine And.intro (fun cr6 => ?_) (fun cr6 => False.elim (absurd (bi_ne0.mp cz3) (bi_eq0.mp cr6)))
        refine And.intro ⟨by omega, Nat.le_of_ble_eq_true rfl, Nat.le_refl _, Nat.le_refl _⟩ (And.intro (Wdo_142 hW) ?_)
        have t22 : (uI (uI m9 0 0 (nI 0)) 142 0 (nI 0)).2.2 = m.2.2 := by rw [uI_22, uI_22]; exact a22
        have tI : ∀ r, r ≠ 0 → r ≠ 142 → ¬ (112 ≤ r ∧ r < 124) → mI (uI (uI m9 0 0 (nI 0)) 142 0 (nI 0)) r = mI m r := fun r h2 h3 h4 => by rw [uI_ne h3, uI_ne h2, po r h2 h4]
        have tD : ∀ f, f < 12 → mI (uI (uI m9 0 0 (nI 0)) 142 0 (nI 0)) (112 + f) = (runF (lam m a) (lam m 20) n4r n8r (mI m a 2) (-nI 1) gg DD) f := fun f hf => by rw [uI_ne (by omega), uI_ne (by omega), pr f hf]
        have t0 : mI (uI (uI m9 0 0 (nI 0)) 142 0 (nI 0)) 0 0 = nI 0 := by rw [uI_ne (by decide), uI_eq, upd_e]
        have t0k : ∀ k, k ≠ 0 → k ≠ 12 → mI (uI (uI m9 0 0 (nI 0)) 142 0 (nI 0)) 0 k = mI m 0 k := fun k hk hk2 => by rw [uI_ne (by decide), uI_eq, upd_o hk, p0k k hk2]
        have t012 : mI (uI (uI m9 0 0 (nI 0)) 142 0 (nI 0)) 0 12 = nI 0 := by rw [uI_ne (by decide), uI_eq, upd_o (by decide), p012]
        have t142 : ∀ k, k ≠ 0 → mI (uI (uI m9 0 0 (nI 0)) 142 0 (nI 0)) 142 k = mI m 142 k := fun k hk => by rw [uI_eq, upd_o hk, uI_ne (by decide), po 142 (by decide) (by decide)]
        generalize (uI (uI m9 0 0 (nI 0)) 142 0 (nI 0)) = m8 at t22 tI tD t0 t0k t012 t142 ⊢
        have hW : Wd m8.2.2 := by rw [t22]; exact hW0
        have hN : NW m8.2.2 q := by rw [t22, ← a22]; exact hN
        have hq : va_rf (mR m8 142 3) = .ref q := by rw [show mR m8 = mR m9 from congrArg (fun w : WR => w.1) (t22.trans a22.symm)]; exact hq
        have hRQ : RQD m8 q (lam m a) (lam m 20) n4r n8r := rq_of hI hSR hn2 (by omega) hn4 (by omega) hn8 (by omega) hLQ hX.2.1 h158 (fun r hr => tI r (by omega) (by omega) (by omega))
        have hlaw : mI m8 q 3 = mI m a 2 := by rw [tI q (by omega) (by omega) (by omega)]; exact hLQ.1.2.2.2.1
        have hpp := (bput_self (m := m8) (x := 148) (n := 7)).symm
        generalize (fun f => mI m8 (148 + f)) = DE9 at hpp
        rw [hpp]
        refine D277 (g0 := gg) (D := DD) (by omega) hW hN hq hRQ (fun ER hFE => ?_)
        clear hpp
        rw [hlaw] at hFE
        have s22 : (bput m8 148 7 ER).2.2 = m8.2.2 := bput_22
        have sI : ∀ r, r < 148 ∨ 155 ≤ r → mI (bput m8 148 7 ER) r = mI m8 r := fun r hr => by
          rcases Nat.lt_or_ge r 148 with z9 | z9
          · exact bput_lo (by omega)
          · exact bput_hi (by omega)
        have sE : ∀ f, f < 7 → mI (bput m8 148 7 ER) (148 + f) = ER f := fun f hf => bput_r hf
        generalize bput m8 148 7 ER = m7 at s22 sI sE ⊢
        have hW : Wd m7.2.2 := by rw [s22]; exact hW
        have hN : NW m7.2.2 q := by rw [s22]; exact hN
        have hq : va_rf (mR m7 142 3) = .ref q := by rw [show mR m7 = mR m8 from congrArg (fun w : WR => w.1) s22]; exact hq
        skip
        have hfp := ((hFE p hp8).1 ⟨hp, Or.inl rfl⟩)
        have hal : mI m7 153 p = mI m9 (112 + 8) p := by rw [sE 5 (by decide), pr 8 (by decide)]; exact hfp.1.2.2.2.2.2.1
        refine And.intro (fun cr14 => False.elim (absurd cr14 (cz5))) (fun cr14 => ?_)
        refine And.intro (Wdo_142 hW) (Exists.intro _ (And.intro (Wdr_142_28 hW) ?_))
        refine And.intro (Wdi_153 hW (vi rfl (by omega))) ?_
        rw [nI_clamp (show p < 2 ^ 31 by omega)]
        rw [hal]
        refine And.intro (fun cr20 => False.elim (absurd cz12 (Int32.not_lt.mpr cr20))) (fun cr20 => ?_)
        refine And.intro (Wdo_142 hW) (Exists.intro _ (And.intro (Wdr_142_29 hW) ?_))
        have er29 : (nI 100 * nI p) + nI i9 = nI (100 * p + i9) := by simp only [nI_add, pk_mul]
        refine And.intro (Wdi_154 hW (vi er29 (by omega))) ?_
        rw [vc er29 (by omega)]
        refine And.intro ⟨by omega, Nat.le_of_ble_eq_true rfl, Nat.le_refl _, Nat.le_refl _⟩ (And.intro (Wdo_142 hW) ?_)
        refine C202 (m := m7) hW ?_
        refine And.intro ⟨rfl, trivial, Nat.le_refl _, Nat.le_refl _⟩ ?_
        have hval : mI m7 154 (100 * p + i9) = mI m9 (112 + 10) (p * 97 + i9) := by
          rw [show mI m7 154 = _ from sE 6 (by decide), pr 10 (by decide)]
          obtain ⟨-, -, -, -, -, -, ku, bu, -, u2, u3, -, -, u6⟩ := hfp.1
          have euk : ku = kk := (nI_eq (by omega) (by omega)).mp (u3.symm.trans yy3)
          exact (u6.2 i9 (by omega)).1
        rw [hval]
        have y0 : ∀ r, r ≠ 142 → mI (uI (uI m7 142 1 (nI 0)) 142 2 (-nI 1)) r = mI m7 r := fun r g => by rw [uI_ne g, uI_ne g]
        have x0 : ∀ x, x ≠ 0 → x ≠ 1 → x ≠ 2 → mI (uI (uI m7 142 1 (nI 0)) 142 2 (-nI 1)) 142 x = mI m 142 x := fun x g0 g1 g2 => by rw [uI_eq, upd_o g2, uI_eq, upd_o g1, sI 142 (by decide), t142 x g0]
        have y00 : mI (uI (uI m7 142 1 (nI 0)) 142 2 (-nI 1)) 0 0 = nI 0 := by rw [y0 0 (by decide), sI 0 (by decide), t0]
        exact h2 _ (Rel_day (g := gg) (D := DD) hW0 hz hA hX (by rw [uI_22, uI_22, s22]; exact t22) (fun r g1 g2 g3 g4 => by rw [y0 r g3, sI r (Classical.byContradiction fun z9 => g1 (by unfold scr; omega)), tI r g2 g3 (by omega)]) (fun _ => by rw [y0 140 (by decide), sI 140 (by decide), tI 140 (by decide) (by decide) (by decide)]) hn4 (by omega) hn8 (by omega) (by rw [y0 0 (by decide), sI 0 (by decide)]; exact t012) (fun f hf => by rw [y0 (112 + f) (by omega), sI (112 + f) (by omega)]; exact tD f hf) (x0 6 (by decide) (by decide) (by decide)) (x0 21 (by decide) (by decide) (by decide)) (x0 22 (by decide) (by decide) (by decide)) ⟨by rw [y00, uI_eq, upd_o (by decide), uI_eq, upd_e], by rw [x0 14 (by decide) (by decide) (by decide), y0 0 (by decide), sI 0 (by decide), t0k 1 (by decide) (by decide)]; exact hS.2.1, by rw [y00, uI_eq, upd_e, if_neg (by decide)]⟩)
      · -- 12 not: ¬ y < mI m9 (112 + 8) p
        refine And.intro ⟨by omega, Nat.le_of_ble_eq_true rfl, Nat.le_refl _, Nat.le_refl _⟩ (And.intro (Wdo_0 hW) ?_)
        refine C176 hW ?_
        refine And.intro ⟨rfl, trivial, Nat.le_refl _, Nat.le_refl _⟩ ?_
        refine h _ _ hW (fun Q2 h2 => ?_)
        refine ent (n := 92) z283 (by decide) rfl (by decide) (Nat.le_of_ble_eq_true rfl) (fun sc2 => ?_)
        refine And.intro (Wdo_142 hW) ?_
        refine And.intro ⟨by omega, Nat.le_of_ble_eq_true rfl, Nat.le_refl _, Nat.le_refl _⟩ (And.intro (Wdo_142 hW) ?_)
        refine C249 (m := (uI (uI m9 0 0 (nI 1)) 142 0 (nI 0))) (by omega) hW (LN_u (LN_u ln8 (by decide)) (by decide)) (by omega) ?_
        refine And.intro (fun cr6 => ?_) (fun cr6 => False.elim (absurd (bi_ne0.mp cz3) (bi_eq0.mp cr6)))
        refine And.intro ⟨by omega, Nat.le_of_ble_eq_true rfl, Nat.le_refl _, Nat.le_refl _⟩ (And.intro (Wdo_142 hW) ?_)
        have t22 : (uI (uI m9 0 0 (nI 1)) 142 0 (nI 0)).2.2 = m.2.2 := by rw [uI_22, uI_22]; exact a22
        have tI : ∀ r, r ≠ 0 → r ≠ 142 → ¬ (112 ≤ r ∧ r < 124) → mI (uI (uI m9 0 0 (nI 1)) 142 0 (nI 0)) r = mI m r := fun r h2 h3 h4 => by rw [uI_ne h3, uI_ne h2, po r h2 h4]
        have tD : ∀ f, f < 12 → mI (uI (uI m9 0 0 (nI 1)) 142 0 (nI 0)) (112 + f) = (runF (lam m a) (lam m 20) n4r n8r (mI m a 2) (-nI 1) gg DD) f := fun f hf => by rw [uI_ne (by omega), uI_ne (by omega), pr f hf]
        have t0 : mI (uI (uI m9 0 0 (nI 1)) 142 0 (nI 0)) 0 0 = nI 1 := by rw [uI_ne (by decide), uI_eq, upd_e]
        have t0k : ∀ k, k ≠ 0 → k ≠ 12 → mI (uI (uI m9 0 0 (nI 1)) 142 0 (nI 0)) 0 k = mI m 0 k := fun k hk hk2 => by rw [uI_ne (by decide), uI_eq, upd_o hk, p0k k hk2]
        have t012 : mI (uI (uI m9 0 0 (nI 1)) 142 0 (nI 0)) 0 12 = nI 0 := by rw [uI_ne (by decide), uI_eq, upd_o (by decide), p012]
        have t142 : ∀ k, k ≠ 0 → mI (uI (uI m9 0 0 (nI 1)) 142 0 (nI 0)) 142 k = mI m 142 k := fun k hk => by rw [uI_eq, upd_o hk, uI_ne (by decide), po 142 (by decide) (by decide)]
        generalize (uI (uI m9 0 0 (nI 1)) 142 0 (nI 0)) = m8 at t22 tI tD t0 t0k t012 t142 ⊢
        have hW : Wd m8.2.2 := by rw [t22]; exact hW0
        have hN : NW m8.2.2 q := by rw [t22, ← a22]; exact hN
        have hq : va_rf (mR m8 142 3) = .ref q := by rw [show mR m8 = mR m9 from congrArg (fun w : WR => w.1) (t22.trans a22.symm)]; exact hq
        have hRQ : RQD m8 q (lam m a) (lam m 20) n4r n8r := rq_of hI hSR hn2 (by omega) hn4 (by omega) hn8 (by omega) hLQ hX.2.1 h158 (fun r hr => tI r (by omega) (by omega) (by omega))
        have hlaw : mI m8 q 3 = mI m a 2 := by rw [tI q (by omega) (by omega) (by omega)]; exact hLQ.1.2.2.2.1
        have hpp := (bput_self (m := m8) (x := 148) (n := 7)).symm
        generalize (fun f => mI m8 (148 + f)) = DE9 at hpp
        rw [hpp]
        refine D277 (g0 := gg) (D := DD) (by omega) hW hN hq hRQ (fun ER hFE => ?_)
        clear hpp
        rw [hlaw] at hFE
        have s22 : (bput m8 148 7 ER).2.2 = m8.2.2 := bput_22
        have sI : ∀ r, r < 148 ∨ 155 ≤ r → mI (bput m8 148 7 ER) r = mI m8 r := fun r hr => by
          rcases Nat.lt_or_ge r 148 with z9 | z9
          · exact bput_lo (by omega)
          · exact bput_hi (by omega)
        have sE : ∀ f, f < 7 → mI (bput m8 148 7 ER) (148 + f) = ER f := fun f hf => bput_r hf
        generalize bput m8 148 7 ER = m7 at s22 sI sE ⊢
        have hW : Wd m7.2.2 := by rw [s22]; exact hW
        have hN : NW m7.2.2 q := by rw [s22]; exact hN
        have hq : va_rf (mR m7 142 3) = .ref q := by rw [show mR m7 = mR m8 from congrArg (fun w : WR => w.1) s22]; exact hq
        skip
        have hfp := ((hFE p hp8).1 ⟨hp, Or.inl rfl⟩)
        have hal : mI m7 153 p = mI m9 (112 + 8) p := by rw [sE 5 (by decide), pr 8 (by decide)]; exact hfp.1.2.2.2.2.2.1
        refine And.intro (fun cr14 => False.elim (absurd cr14 (cz5))) (fun cr14 => ?_)
        refine And.intro (Wdo_142 hW) (Exists.intro _ (And.intro (Wdr_142_28 hW) ?_))
        refine And.intro (Wdi_153 hW (vi rfl (by omega))) ?_
        rw [nI_clamp (show p < 2 ^ 31 by omega)]
        rw [hal]
        refine And.intro (fun cr20 => ?_) (fun cr20 => False.elim (absurd (Int32.not_lt.mp cz12) cr20))
        refine And.intro ⟨by omega, Nat.le_of_ble_eq_true rfl, Nat.le_refl _, Nat.le_refl _⟩ (And.intro (Wdo_142 hW) ?_)
        refine C200 (m := m7) hW ?_
        refine And.intro ⟨rfl, trivial, Nat.le_refl _, Nat.le_refl _⟩ ?_
        have y0 : ∀ r, r ≠ 142 → mI (uI (uI m7 142 1 (nI 1)) 142 2 (-nI 1)) r = mI m7 r := fun r g => by rw [uI_ne g, uI_ne g]
        have x0 : ∀ x, x ≠ 0 → x ≠ 1 → x ≠ 2 → mI (uI (uI m7 142 1 (nI 1)) 142 2 (-nI 1)) 142 x = mI m 142 x := fun x g0 g1 g2 => by rw [uI_eq, upd_o g2, uI_eq, upd_o g1, sI 142 (by decide), t142 x g0]
        have y00 : mI (uI (uI m7 142 1 (nI 1)) 142 2 (-nI 1)) 0 0 = nI 1 := by rw [y0 0 (by decide), sI 0 (by decide), t0]
        exact h2 _ (Rel_day (g := gg) (D := DD) hW0 hz hA hX (by rw [uI_22, uI_22, s22]; exact t22) (fun r g1 g2 g3 g4 => by rw [y0 r g3, sI r (Classical.byContradiction fun z9 => g1 (by unfold scr; omega)), tI r g2 g3 (by omega)]) (fun _ => by rw [y0 140 (by decide), sI 140 (by decide), tI 140 (by decide) (by decide) (by decide)]) hn4 (by omega) hn8 (by omega) (by rw [y0 0 (by decide), sI 0 (by decide)]; exact t012) (fun f hf => by rw [y0 (112 + f) (by omega), sI (112 + f) (by omega)]; exact tD f hf) (x0 6 (by decide) (by decide) (by decide)) (x0 21 (by decide) (by decide) (by decide)) (x0 22 (by decide) (by decide) (by decide)) ⟨by rw [y00, uI_eq, upd_o (by decide), uI_eq, upd_e], by rw [x0 14 (by decide) (by decide) (by decide), y0 0 (by decide), sI 0 (by decide), t0k 1 (by decide) (by decide)]; exact hS.2.1, by rw [y00, uI_eq, upd_e, if_neg (by decide)]⟩)
