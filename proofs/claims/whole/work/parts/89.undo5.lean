theorem P_undo {d : Nat} {m : Mm} {Q : Option Value → Mm → Prop} {z : Nat} (hd : 16 ≤ d) (hR : Rel z m) (h : ∀ (r : Int32) m1, Wd m1.2.2 → (∀ Q2 : Option Value → Mm → Prop, (∀ m2, Rel z m2 → Q2 (some (.int r)) m2) → Cc d 0 0 329 [.ref 142] m1 Q2) → Q (some (.int r)) m1) : Cc d 0 0 165 [.ref 0] m Q := by
  obtain ⟨hW, hz, hS, a, b, hA, hX⟩ := id hR
  obtain ⟨hL, hLb, hab, ha, hb⟩ := RelA_L hW hA
  obtain ⟨n2r, hn2, bn2, ln2⟩ := RL_n (s := 2) (f := 5) hX.2.2.1 (by decide) (fun _ _ h => h.2.2.2.2.2.1)
  change n2r ≤ 6 at bn2
  obtain ⟨n4r, hn4, bn4, ln4⟩ := RL_n (s := 4) (f := 6) hX.2.2.1 (by decide) (fun _ _ h => h.2.2.2.2.2.2.1)
  change n4r ≤ 6 at bn4
  obtain ⟨n8r, hn8, bn8, ln8⟩ := RL_n (s := 8) (f := 10) hX.2.2.1 (by decide) (fun _ _ h => h.2.2.2.2.2.2.2.2.2.2.1)
  change n8r ≤ 8 at bn8
  obtain ⟨n10r, hn10, bn10, ln10⟩ := RL_n (s := 10) (f := 12) hX.2.2.1 (by decide) (fun _ _ h => h.2.2.2.2.2.2.2.2.2.2.2.2.1)
  change n10r ≤ 4 at bn10
  obtain ⟨fk, wk, yk, hf, hw, hy, hp2, hp3, hp4, hp21, hp22, hc9, hc10⟩ := id hX.2.2.2.1
  rcases RL_st hX.2.2.1 with ⟨hL0, hst0⟩ | ⟨q, hq1, hst0⟩
  · have hw00 : wk = 0 := (nI_eq (by omega) (by decide)).mp (hp3.symm.trans hL0.2.2.2.2.2.2.1)
    have hy00 : yk = 0 := (nI_eq (by omega) (by decide)).mp (hp4.symm.trans hL0.2.2.2.2.2.2.2)
    refine ent (n := 52) z165 (by decide) rfl (by decide) (Nat.le_of_ble_eq_true rfl) (fun sc => ?_)
    refine And.intro (Wdo_0 hW) (Exists.intro _ (And.intro (Wdr_0_5 hW) ?_))
    refine And.intro (Wdo_0 hW) (Exists.intro _ (And.intro (Wdr_0_4 hW) ?_))
    refine And.intro ⟨by omega, Nat.le_of_ble_eq_true rfl, Nat.le_refl _, Nat.le_refl _⟩ (And.intro (Wdo_24 hW) ?_)
    refine C52 (f := fk) (w := wk) (by omega) hW hf hw hp2 hp3 (fun hw0 => ?_) (fun hw0 => ?_)
    · -- a way behind the call
      refine And.intro (fun cz5 => False.elim (absurd cz5 (by decide))) (fun cz5 => ?_)
      refine And.intro ⟨by omega, Nat.le_of_ble_eq_true rfl, Nat.le_refl _, Nat.le_refl _⟩ (And.intro (Wdo_0 hW) ?_)
      refine C178 hW ?_
      refine And.intro ⟨rfl, Or.inl rfl, Nat.le_refl _, Nat.le_refl _⟩ ?_
      refine h _ _ hW (fun Q2 h2 => ?_)
      refine ent (n := 104) z329 (by decide) rfl (by decide) (Nat.le_of_ble_eq_true rfl) (fun sc2 => ?_)
      refine And.intro (Wdo_142 hW) ?_
      refine And.intro (Wdo_142 hW) (Exists.intro _ (And.intro (show va_rf (mR m 142 3) = .null by rw [hL0.1]; rfl) ?_))
      refine And.intro ⟨by omega, Nat.le_of_ble_eq_true rfl, Nat.le_refl _, Nat.le_refl _⟩ (And.intro (Wdo_142 hW) ?_)
      refine C201 (m := (uI (uI m 0 0 (nI 6)) 142 0 (nI 0))) (by omega) hW ?_
      refine And.intro ⟨rfl, Or.inl rfl, Nat.le_refl _, Nat.le_refl _⟩ ?_
      exact h2 _ (Rel_ans hR (by decide))
    · -- a way behind the call
      exact absurd hw0 (by omega)
  · skip
    have hqq := hq1
    obtain ⟨hq, w, u, ha0, ha1, hq0, hq1w, hw6, hu4, hwu, hgr⟩ := RL_q hq1
    obtain ⟨h158, hqz, hN, h3, ⟨T, hI⟩, hst, hla, hLQ, hSR⟩ := hq1
    have hq6 : mI m q 6 = nI n4r := hLQ.1.2.2.2.2.2.2.1.trans hn4
    have hq5 : mI m q 5 = nI n2r := hLQ.1.2.2.2.2.2.1.trans hn2
    refine ent (n := 52) z165 (by decide) rfl (by decide) (Nat.le_of_ble_eq_true rfl) (fun sc => ?_)
    refine And.intro (Wdo_0 hW) (Exists.intro _ (And.intro (Wdr_0_5 hW) ?_))
    refine And.intro (Wdo_0 hW) (Exists.intro _ (And.intro (Wdr_0_4 hW) ?_))
    refine And.intro ⟨by omega, Nat.le_of_ble_eq_true rfl, Nat.le_refl _, Nat.le_refl _⟩ (And.intro (Wdo_24 hW) ?_)
    refine C52 (f := fk) (w := wk) (by omega) hW hf hw hp2 hp3 (fun hw0 => ?_) (fun hw0 => ?_)
    · -- a way behind the call
      refine And.intro (fun cz5 => False.elim (absurd cz5 (by decide))) (fun cz5 => ?_)
      refine And.intro ⟨by omega, Nat.le_of_ble_eq_true rfl, Nat.le_refl _, Nat.le_refl _⟩ (And.intro (Wdo_0 hW) ?_)
      refine C178 hW ?_
      refine And.intro ⟨rfl, Or.inl rfl, Nat.le_refl _, Nat.le_refl _⟩ ?_
      refine h _ _ hW (fun Q2 h2 => ?_)
      refine ent (n := 104) z329 (by decide) rfl (by decide) (Nat.le_of_ble_eq_true rfl) (fun sc2 => ?_)
      refine And.intro (Wdo_142 hW) ?_
      refine And.intro (Wdo_142 hW) (Exists.intro _ (And.intro hq ?_))
      refine And.intro (Wdo_142 hW) ?_
      rw [show mI (uI (uI m 0 0 (nI 6)) 142 0 (nI 0)) 142 21 = nI wk from by rw [uI_eq, upd_o (by decide), uI_ne (by decide)]; exact hp21]
      refine And.intro (fun cr8 => ?_) (fun cr8 => ?_)
      · -- 8 taken: ¬ nI wk = 0
        have kr8 : wk ≠ 0 := kne (a := wk) (b := 0) rfl rfl (by omega) (by omega) cr8
        omega
      · -- 8 not: nI wk = 0
        have kr8 : wk = 0 := keq (a := wk) (b := 0) rfl rfl (by omega) (by omega) cr8
        refine And.intro ⟨by omega, Nat.le_of_ble_eq_true rfl, Nat.le_refl _, Nat.le_refl _⟩ (And.intro (Wdo_142 hW) ?_)
        refine C201 (m := (uI (uI m 0 0 (nI 6)) 142 0 (nI 0))) (by omega) hW ?_
        refine And.intro ⟨rfl, Or.inl rfl, Nat.le_refl _, Nat.le_refl _⟩ ?_
        exact h2 _ (Rel_ans hR (by decide))
    · -- a way behind the call
      have hcp := cpM_P (m := uI m 24 3 (nI wk - nI 1)) (b := (27 + 4 * ((fk + (wk - 1)) % 12))) (g := 20)
      have a22 : (cpM (uI m 24 3 (nI wk - nI 1)) (27 + 4 * ((fk + (wk - 1)) % 12)) 20).2.2 = m.2.2 := by rw [cpM_22, uI_22]
      generalize cpM (uI m 24 3 (nI wk - nI 1)) (27 + 4 * ((fk + (wk - 1)) % 12)) 20 = m9 at hcp a22 ⊢
      have hW0 := hW
      have hW : Wd m9.2.2 := by rw [a22]; exact hW0
      have hq : va_rf (mR m9 142 3) = .ref q := by rw [show mR m9 = mR m from congrArg (fun w : WR => w.1) a22]; exact hq
      have hN : NW m9.2.2 q := by rw [a22]; exact hN
      refine And.intro (fun cz5 => ?_) (fun cz5 => False.elim (absurd cz5 (by decide)))
      refine And.intro (Wdo_0 hW) (And.intro (Or.inr rfl) ?_)
      refine And.intro ⟨by omega, Nat.le_of_ble_eq_true rfl, Nat.le_refl _, Nat.le_refl _⟩ (And.intro (Wdo_0 hW) ?_)
      refine C179 (m := (uI m9 0 12 (nI 1))) hW ?_
      refine And.intro ⟨rfl, Or.inr rfl, Nat.le_refl _, Nat.le_refl _⟩ ?_
      refine h _ _ hW (fun Q2 h2 => ?_)
      refine ent (n := 104) z329 (by decide) rfl (by decide) (Nat.le_of_ble_eq_true rfl) (fun sc2 => ?_)
      refine And.intro (Wdo_142 hW) ?_
      refine And.intro (Wdo_142 hW) (Exists.intro _ (And.intro hq ?_))
      refine And.intro (Wdo_142 hW) ?_
      rw [show mI (uI (uI (uI m9 0 12 (nI 1)) 0 0 (nI 0)) 142 0 (nI 0)) 142 21 = nI wk from by rw [uI_eq, upd_o (by decide), uI_ne (by decide), uI_ne (by decide), hcp.1 142 (by decide), uI_ne (by decide)]; exact hp21]
      refine And.intro (fun cr8 => ?_) (fun cr8 => ?_)
      · -- 8 taken: ¬ nI wk = 0
        have kr8 : wk ≠ 0 := kne (a := wk) (b := 0) rfl rfl (by omega) (by omega) cr8
        refine And.intro rfl ?_
        refine And.intro (Wdo_142 hW) ?_
        rw [show mI (uI (uI (uI m9 0 12 (nI 1)) 0 0 (nI 0)) 142 0 (nI 0)) 142 21 = nI wk from by rw [uI_eq, upd_o (by decide), uI_ne (by decide), uI_ne (by decide), hcp.1 142 (by decide), uI_ne (by decide)]; exact hp21]
        refine And.intro (Wdo_142 hW) ?_
        show Jj sc2 d 0 0 (mth 329) (pg P329 21).1 [some (.ref 142), some (.int (nI 0))] [] (uI (uI (uI (uI m9 0 12 (nI 1)) 0 0 (nI 0)) 142 0 (nI 0)) 142 21 (nI wk - nI 1)) 0 0 Q2
        have hgo := h2 _ (Rel_und hW0 hz hS hA hX hqq hf hw hy hp2 hp3 hp4 hp21 hp22 hc9 hc10 a22 hw0 hcp)
        have w9 := lund (sc := sc2) (d := d) (m := (uI (uI (uI (uI m9 0 12 (nI 1)) 0 0 (nI 0)) 142 0 (nI 0)) 142 21 (nI wk - nI 1))) (Q := Q2) (w := wk - 1) (by omega) hW (by omega) (by rw [uI_eq, upd_e, pk_sub (by omega)]) hgo 49 0 (by decide) (by decide)
        rw [cpF_0, rI_self] at w9
        exact w9
      · -- 8 not: nI wk = 0
        have kr8 : wk = 0 := keq (a := wk) (b := 0) rfl rfl (by omega) (by omega) cr8
        omega
theorem P_mark {d : Nat} {m : Mm} {Q : Option Value → Mm → Prop} {z : Nat} (hd : 16 ≤ d) (hR : Rel z m) (h : ∀ (r : Int32) m1, Wd m1.2.2 → (∀ Q2 : Option Value → Mm → Prop, (∀ m2, Rel z m2 → Q2 (some (.int r)) m2) → Cc d 0 0 330 [.ref 142] m1 Q2) → Q (some (.int r)) m1) : Cc d 0 0 166 [.ref 0] m Q := by
  obtain ⟨hW, hz, hS, a, b, hA, hX⟩ := id hR
  obtain ⟨hL, hLb, hab, ha, hb⟩ := RelA_L hW hA
  obtain ⟨n2r, hn2, bn2, ln2⟩ := RL_n (s := 2) (f := 5) hX.2.2.1 (by decide) (fun _ _ h => h.2.2.2.2.2.1)
  change n2r ≤ 6 at bn2
  obtain ⟨n4r, hn4, bn4, ln4⟩ := RL_n (s := 4) (f := 6) hX.2.2.1 (by decide) (fun _ _ h => h.2.2.2.2.2.2.1)
  change n4r ≤ 6 at bn4
  obtain ⟨n8r, hn8, bn8, ln8⟩ := RL_n (s := 8) (f := 10) hX.2.2.1 (by decide) (fun _ _ h => h.2.2.2.2.2.2.2.2.2.2.1)
  change n8r ≤ 8 at bn8
  obtain ⟨n10r, hn10, bn10, ln10⟩ := RL_n (s := 10) (f := 12) hX.2.2.1 (by decide) (fun _ _ h => h.2.2.2.2.2.2.2.2.2.2.2.2.1)
  change n10r ≤ 4 at bn10
  obtain ⟨fk, wk, yk, hf, hw, hy, hp2, hp3, hp4, hp21, hp22, hc9, hc10⟩ := id hX.2.2.2.1
  rcases RL_st hX.2.2.1 with ⟨hL0, hst0⟩ | ⟨q, hq1, hst0⟩
  · have hw00 : wk = 0 := (nI_eq (by omega) (by decide)).mp (hp3.symm.trans hL0.2.2.2.2.2.2.1)
    have hy00 : yk = 0 := (nI_eq (by omega) (by decide)).mp (hp4.symm.trans hL0.2.2.2.2.2.2.2)
    refine ent (n := 70) z166 (by decide) rfl (by decide) (Nat.le_of_ble_eq_true rfl) (fun sc => ?_)
    refine And.intro (Wdo_0 hW) (Exists.intro _ (And.intro ha ?_))
    refine And.intro ⟨by omega, Nat.le_of_ble_eq_true rfl, Nat.le_refl _, Nat.le_refl _⟩ (And.intro (LWo_0 hL) ?_)
    refine C21 hL ?_
    refine And.intro (fun cz3 => False.elim (absurd (bi_ne0.mp cz3) (hst0))) (fun cz3 => ?_)
    refine And.intro ⟨by omega, Nat.le_of_ble_eq_true rfl, Nat.le_refl _, Nat.le_refl _⟩ (And.intro (Wdo_0 hW) ?_)
    refine C176 hW ?_
    refine And.intro ⟨rfl, trivial, Nat.le_refl _, Nat.le_refl _⟩ ?_
    refine h _ _ hW (fun Q2 h2 => ?_)
    refine ent (n := 122) z330 (by decide) rfl (by decide) (Nat.le_of_ble_eq_true rfl) (fun sc2 => ?_)
    refine And.intro (Wdo_142 hW) ?_
    refine And.intro (Wdo_142 hW) (Exists.intro _ (And.intro (show va_rf (mR m 142 3) = .null by rw [hL0.1]; rfl) ?_))
    refine And.intro ⟨by omega, Nat.le_of_ble_eq_true rfl, Nat.le_refl _, Nat.le_refl _⟩ (And.intro (Wdo_142 hW) ?_)
    refine C200 (m := (uI (uI m 0 0 (nI 1)) 142 0 (nI 0))) hW ?_
    refine And.intro ⟨rfl, trivial, Nat.le_refl _, Nat.le_refl _⟩ ?_
    exact h2 _ (Rel_ans hR (by decide))
  · skip
    have hqq := hq1
    obtain ⟨hq, w, u, ha0, ha1, hq0, hq1w, hw6, hu4, hwu, hgr⟩ := RL_q hq1
    obtain ⟨h158, hqz, hN, h3, ⟨T, hI⟩, hst, hla, hLQ, hSR⟩ := hq1
    have hq6 : mI m q 6 = nI n4r := hLQ.1.2.2.2.2.2.2.1.trans hn4
    have hq5 : mI m q 5 = nI n2r := hLQ.1.2.2.2.2.2.1.trans hn2
    refine ent (n := 70) z166 (by decide) rfl (by decide) (Nat.le_of_ble_eq_true rfl) (fun sc => ?_)
    refine And.intro (Wdo_0 hW) (Exists.intro _ (And.intro ha ?_))
    refine And.intro ⟨by omega, Nat.le_of_ble_eq_true rfl, Nat.le_refl _, Nat.le_refl _⟩ (And.intro (LWo_0 hL) ?_)
    refine C21 hL ?_
    refine And.intro (fun cz3 => ?_) (fun cz3 => False.elim (absurd (hst0) (bi_eq0.mp cz3)))
    refine And.intro (Wdo_0 hW) (Exists.intro _ (And.intro (Wdr_0_5 hW) ?_))
    refine And.intro (Wdo_0 hW) (Exists.intro _ (And.intro (Wdr_0_4 hW) ?_))
    refine And.intro ⟨by omega, Nat.le_of_ble_eq_true rfl, Nat.le_refl _, Nat.le_refl _⟩ (And.intro (Wdo_24 hW) ?_)
    refine C53 (y := yk) (by omega) hW hy hp4 (fun hw0 => ?_) (fun hw0 => ?_)
    · -- a way behind the call
      refine And.intro (fun cz16 => False.elim (cz16 rfl)) (fun cz16 => ?_)
      refine And.intro ⟨by omega, Nat.le_of_ble_eq_true rfl, Nat.le_refl _, Nat.le_refl _⟩ (And.intro (Wdo_0 hW) ?_)
      refine C176 hW ?_
      refine And.intro ⟨rfl, trivial, Nat.le_refl _, Nat.le_refl _⟩ ?_
      refine h _ _ hW (fun Q2 h2 => ?_)
      refine ent (n := 122) z330 (by decide) rfl (by decide) (Nat.le_of_ble_eq_true rfl) (fun sc2 => ?_)
      refine And.intro (Wdo_142 hW) ?_
      refine And.intro (Wdo_142 hW) (Exists.intro _ (And.intro hq ?_))
      refine And.intro (Wdo_142 hW) ?_
      rw [show mI (uI (uI m 0 0 (nI 3)) 142 0 (nI 0)) 142 22 = nI yk from by rw [uI_eq, upd_o (by decide), uI_ne (by decide)]; exact hp22]
      refine And.intro (fun cr13 => ?_) (fun cr13 => ?_)
      · -- 13 taken: ¬ nI yk = nI 3
        have kr13 : yk ≠ 3 := kne (a := yk) (b := 3) rfl rfl (by omega) (by omega) cr13
        omega
      · -- 13 not: nI yk = nI 3
        have kr13 : yk = 3 := keq (a := yk) (b := 3) rfl rfl (by omega) (by omega) cr13
        refine And.intro ⟨by omega, Nat.le_of_ble_eq_true rfl, Nat.le_refl _, Nat.le_refl _⟩ (And.intro (Wdo_142 hW) ?_)
        refine C200 (m := (uI (uI m 0 0 (nI 3)) 142 0 (nI 0))) hW ?_
        refine And.intro ⟨rfl, trivial, Nat.le_refl _, Nat.le_refl _⟩ ?_
        exact h2 _ (Rel_ans hR (by decide))
    · -- a way behind the call
      have hcp := cpM_P (m := m) (b := 20) (g := 75 + 4 * yk)
      have a22 : (cpM m 20 (75 + 4 * yk)).2.2 = m.2.2 := cpM_22
      generalize cpM m 20 (75 + 4 * yk) = mc at hcp a22 ⊢
      have hW0 := hW
      have hW : Wd mc.2.2 := by rw [a22]; exact hW0
      have hq : va_rf (mR mc 142 3) = .ref q := by rw [show mR mc = mR m from congrArg (fun w : WR => w.1) a22]; exact hq
      have hN : NW mc.2.2 q := by rw [a22]; exact hN
      refine And.intro (fun cz16 => ?_) (fun cz16 => False.elim (nI_neg1 (show yk < 2 ^ 31 by omega) cz16))
      refine And.intro ⟨by omega, Nat.le_of_ble_eq_true rfl, Nat.le_refl _, Nat.le_refl _⟩ (And.intro (Wdo_0 hW) ?_)
      refine C177 (m := (uI mc 24 4 (nI yk + nI 1))) hW ?_
      refine And.intro ⟨rfl, trivial, Nat.le_refl _, Nat.le_refl _⟩ ?_
      refine h _ _ hW (fun Q2 h2 => ?_)
      refine ent (n := 122) z330 (by decide) rfl (by decide) (Nat.le_of_ble_eq_true rfl) (fun sc2 => ?_)
      refine And.intro (Wdo_142 hW) ?_
      refine And.intro (Wdo_142 hW) (Exists.intro _ (And.intro hq ?_))
      refine And.intro (Wdo_142 hW) ?_
      rw [show mI (uI (uI (uI mc 24 4 (nI yk + nI 1)) 0 0 (nI 0)) 142 0 (nI 0)) 142 22 = nI yk from by rw [uI_eq, upd_o (by decide), uI_ne (by decide), uI_ne (by decide), hcp.1 142 (by omega)]; exact hp22]
      refine And.intro (fun cr13 => ?_) (fun cr13 => ?_)
      · -- 13 taken: ¬ nI yk = nI 3
        have kr13 : yk ≠ 3 := kne (a := yk) (b := 3) rfl rfl (by omega) (by omega) cr13
        show Jj sc2 d 0 0 (mth 330) (pg P330 20).1 [some (.ref 142), some (.int (nI 0))] [] (uI (uI (uI mc 24 4 (nI yk + nI 1)) 0 0 (nI 0)) 142 0 (nI 0)) 0 0 Q2
        have hgo := h2 _ (Rel_mrk hW0 hz hS hA hX hqq hf hw hy hp2 hp3 hp4 hp21 hp22 hc9 hc10 a22 hw0 hcp)
        have w9 := lmrk (sc := sc2) (d := d) (m := (uI (uI (uI mc 24 4 (nI yk + nI 1)) 0 0 (nI 0)) 142 0 (nI 0))) (Q := Q2) (y := yk) (by omega) hW hw0 (by rw [uI_eq, upd_o (by decide), uI_ne (by decide), uI_ne (by decide), hcp.1 142 (by omega)]; exact hp22) hgo 49 0 (by decide) (by decide)
        rw [cpF_0, rI_self] at w9
        exact w9
      · -- 13 not: nI yk = nI 3
        have kr13 : yk = 3 := keq (a := yk) (b := 3) rfl rfl (by omega) (by omega) cr13
        omega
theorem P_back {d : Nat} {m : Mm} {Q : Option Value → Mm → Prop} {z : Nat} {x : Int32} (hd : 16 ≤ d) (hR : Rel z m) (h : ∀ (r : Int32) m1, Wd m1.2.2 → (∀ Q2 : Option Value → Mm → Prop, (∀ m2, Rel z m2 → Q2 (some (.int r)) m2) → Cc d 0 0 331 [.ref 142, .int x] m1 Q2) → Q (some (.int r)) m1) : Cc d 0 0 167 [.ref 0, .int x] m Q := by
  obtain ⟨hW, hz, hS, a, b, hA, hX⟩ := id hR
  obtain ⟨hL, hLb, hab, ha, hb⟩ := RelA_L hW hA
  obtain ⟨n2r, hn2, bn2, ln2⟩ := RL_n (s := 2) (f := 5) hX.2.2.1 (by decide) (fun _ _ h => h.2.2.2.2.2.1)
  change n2r ≤ 6 at bn2
  obtain ⟨n4r, hn4, bn4, ln4⟩ := RL_n (s := 4) (f := 6) hX.2.2.1 (by decide) (fun _ _ h => h.2.2.2.2.2.2.1)
  change n4r ≤ 6 at bn4
  obtain ⟨n8r, hn8, bn8, ln8⟩ := RL_n (s := 8) (f := 10) hX.2.2.1 (by decide) (fun _ _ h => h.2.2.2.2.2.2.2.2.2.2.1)
  change n8r ≤ 8 at bn8
  obtain ⟨n10r, hn10, bn10, ln10⟩ := RL_n (s := 10) (f := 12) hX.2.2.1 (by decide) (fun _ _ h => h.2.2.2.2.2.2.2.2.2.2.2.2.1)
  change n10r ≤ 4 at bn10
  obtain ⟨fk, wk, yk, hf, hw, hy, hp2, hp3, hp4, hp21, hp22, hc9, hc10⟩ := id hX.2.2.2.1
  rcases RL_st hX.2.2.1 with ⟨hL0, hst0⟩ | ⟨q, hq1, hst0⟩
  · have hw00 : wk = 0 := (nI_eq (by omega) (by decide)).mp (hp3.symm.trans hL0.2.2.2.2.2.2.1)
    have hy00 : yk = 0 := (nI_eq (by omega) (by decide)).mp (hp4.symm.trans hL0.2.2.2.2.2.2.2)
    refine ent (n := 54) z167 (by decide) rfl (by decide) (Nat.le_of_ble_eq_true rfl) (fun sc => ?_)
    refine And.intro (Wdo_0 hW) (Exists.intro _ (And.intro (Wdr_0_5 hW) ?_))
    refine And.intro (Wdo_0 hW) (Exists.intro _ (And.intro (Wdr_0_4 hW) ?_))
    refine And.intro ⟨by omega, Nat.le_of_ble_eq_true rfl, Nat.le_refl _, Nat.le_refl _⟩ (And.intro (Wdo_24 hW) ?_)
    refine C54 (y := yk) (by omega) hW hy hp4 (fun hnr => ?_) (fun j9 hj9 hx9 => ?_)
    · -- a way behind the call
      refine And.intro (fun cz6 => False.elim (absurd cz6 (by decide))) (fun cz6 => ?_)
      refine And.intro ⟨by omega, Nat.le_of_ble_eq_true rfl, Nat.le_refl _, Nat.le_refl _⟩ (And.intro (Wdo_0 hW) ?_)
      refine C178 hW ?_
      refine And.intro ⟨rfl, Or.inl rfl, Nat.le_refl _, Nat.le_refl _⟩ ?_
      refine h _ _ hW (fun Q2 h2 => ?_)
      refine ent (n := 102) z331 (by decide) rfl (by decide) (Nat.le_of_ble_eq_true rfl) (fun sc2 => ?_)
      refine And.intro (Wdo_142 hW) ?_
      refine And.intro (Wdo_142 hW) (Exists.intro _ (And.intro (show va_rf (mR m 142 3) = .null by rw [hL0.1]; rfl) ?_))
      refine And.intro ⟨by omega, Nat.le_of_ble_eq_true rfl, Nat.le_refl _, Nat.le_refl _⟩ (And.intro (Wdo_142 hW) ?_)
      refine C201 (m := (uI (uI m 0 0 (nI 1)) 142 0 (nI 0))) (by omega) hW ?_
      refine And.intro ⟨rfl, Or.inl rfl, Nat.le_refl _, Nat.le_refl _⟩ ?_
      exact h2 _ (Rel_ans hR (by decide))
    · -- a way behind the call
      exact absurd hj9 (by omega)
  · skip
    have hqq := hq1
    obtain ⟨hq, w, u, ha0, ha1, hq0, hq1w, hw6, hu4, hwu, hgr⟩ := RL_q hq1
    obtain ⟨h158, hqz, hN, h3, ⟨T, hI⟩, hst, hla, hLQ, hSR⟩ := hq1
    have hq6 : mI m q 6 = nI n4r := hLQ.1.2.2.2.2.2.2.1.trans hn4
    have hq5 : mI m q 5 = nI n2r := hLQ.1.2.2.2.2.2.1.trans hn2
    refine ent (n := 54) z167 (by decide) rfl (by decide) (Nat.le_of_ble_eq_true rfl) (fun sc => ?_)
    refine And.intro (Wdo_0 hW) (Exists.intro _ (And.intro (Wdr_0_5 hW) ?_))
    refine And.intro (Wdo_0 hW) (Exists.intro _ (And.intro (Wdr_0_4 hW) ?_))
    refine And.intro ⟨by omega, Nat.le_of_ble_eq_true rfl, Nat.le_refl _, Nat.le_refl _⟩ (And.intro (Wdo_24 hW) ?_)
    refine C54 (y := yk) (by omega) hW hy hp4 (fun hnr => ?_) (fun j9 hj9 hx9 => ?_)
    · -- a way behind the call
      refine And.intro (fun cz6 => False.elim (absurd cz6 (by decide))) (fun cz6 => ?_)
      refine And.intro ⟨by omega, Nat.le_of_ble_eq_true rfl, Nat.le_refl _, Nat.le_refl _⟩ (And.intro (Wdo_0 hW) ?_)
      refine C178 hW ?_
      refine And.intro ⟨rfl, Or.inl rfl, Nat.le_refl _, Nat.le_refl _⟩ ?_
      refine h _ _ hW (fun Q2 h2 => ?_)
      refine ent (n := 102) z331 (by decide) rfl (by decide) (Nat.le_of_ble_eq_true rfl) (fun sc2 => ?_)
      refine And.intro (Wdo_142 hW) ?_
      refine And.intro (Wdo_142 hW) (Exists.intro _ (And.intro hq ?_))
      refine And.intro (fun cr7 => ?_) (fun cr7 => ?_)
      · -- 7 taken: x < 0
        refine And.intro ⟨by omega, Nat.le_of_ble_eq_true rfl, Nat.le_refl _, Nat.le_refl _⟩ (And.intro (Wdo_142 hW) ?_)
        refine C201 (m := (uI (uI m 0 0 (nI 1)) 142 0 (nI 0))) (by omega) hW ?_
        refine And.intro ⟨rfl, Or.inl rfl, Nat.le_refl _, Nat.le_refl _⟩ ?_
        exact h2 _ (Rel_ans hR (by decide))
      · -- 7 not: ¬ x < 0
        refine And.intro (Wdo_142 hW) ?_
        rw [show mI (uI (uI m 0 0 (nI 1)) 142 0 (nI 0)) 142 22 = nI yk from by rw [uI_eq, upd_o (by decide), uI_ne (by decide)]; exact hp22]
        refine And.intro (fun cr11 => ?_) (fun cr11 => ?_)
        · -- 11 taken: x < nI yk
          exact absurd ((irq (by omega)).mpr ⟨cr7, Int32.not_le.mpr cr11⟩) hnr
        · -- 11 not: ¬ x < nI yk
          refine And.intro ⟨by omega, Nat.le_of_ble_eq_true rfl, Nat.le_refl _, Nat.le_refl _⟩ (And.intro (Wdo_142 hW) ?_)
          refine C201 (m := (uI (uI m 0 0 (nI 1)) 142 0 (nI 0))) (by omega) hW ?_
          refine And.intro ⟨rfl, Or.inl rfl, Nat.le_refl _, Nat.le_refl _⟩ ?_
          exact h2 _ (Rel_ans hR (by decide))
    · -- a way behind the call
      subst hx9
      have hcp := cpM_P (m := m) (b := 75 + 4 * j9) (g := 20)
      have a22 : (cpM m (75 + 4 * j9) 20).2.2 = m.2.2 := cpM_22
      generalize cpM m (75 + 4 * j9) 20 = mc at hcp a22 ⊢
      have hW0 := hW
      have hW : Wd mc.2.2 := by rw [a22]; exact hW0
      have hq : va_rf (mR mc 142 3) = .ref q := by rw [show mR mc = mR m from congrArg (fun w : WR => w.1) a22]; exact hq
      have hN : NW mc.2.2 q := by rw [a22]; exact hN
      refine And.intro (fun cz6 => ?_) (fun cz6 => False.elim (absurd cz6 (by decide)))
      refine And.intro (Wdo_0 hW) (And.intro (Or.inr rfl) ?_)
      refine And.intro ⟨by omega, Nat.le_of_ble_eq_true rfl, Nat.le_refl _, Nat.le_refl _⟩ (And.intro (Wdo_0 hW) ?_)
      refine C179 (m := (uI (uI mc 24 3 (nI 0)) 0 12 (nI 1))) hW ?_
      refine And.intro ⟨rfl, Or.inr rfl, Nat.le_refl _, Nat.le_refl _⟩ ?_
      refine h _ _ hW (fun Q2 h2 => ?_)
      refine ent (n := 102) z331 (by decide) rfl (by decide) (Nat.le_of_ble_eq_true rfl) (fun sc2 => ?_)
      refine And.intro (Wdo_142 hW) ?_
      refine And.intro (Wdo_142 hW) (Exists.intro _ (And.intro hq ?_))
      refine And.intro (fun cr7 => ?_) (fun cr7 => ?_)
      · -- 7 taken: nI j9 < 0
        exact absurd cr7 (nI_pos (by omega))
      · -- 7 not: ¬ nI j9 < 0
        refine And.intro (Wdo_142 hW) ?_
        rw [show mI (uI (uI (uI (uI mc 24 3 (nI 0)) 0 12 (nI 1)) 0 0 (nI 0)) 142 0 (nI 0)) 142 22 = nI yk from by rw [uI_eq, upd_o (by decide), uI_ne (by decide), uI_ne (by decide), uI_ne (by decide), hcp.1 142 (by decide)]; exact hp22]
        refine And.intro (fun cr11 => ?_) (fun cr11 => ?_)
        · -- 11 taken: nI j9 < nI yk
          have kr11 : j9 < yk := klt (a := j9) (b := yk) rfl rfl (by omega) (by omega) cr11
          show Jj sc2 d 0 0 (mth 331) (pg P331 18).1 [some (.ref 142), some (.int (nI j9)), some (.int (nI 0))] [] (uI (uI (uI (uI mc 24 3 (nI 0)) 0 12 (nI 1)) 0 0 (nI 0)) 142 0 (nI 0)) 0 0 Q2
          have hgo := h2 _ (Rel_bck hW0 hz hS hA hX hqq hf hw hy hp2 hp3 hp4 hp21 hp22 hc9 hc10 a22 hj9 hcp)
          have w9 := lbck (sc := sc2) (d := d) (m := (uI (uI (uI (uI mc 24 3 (nI 0)) 0 12 (nI 1)) 0 0 (nI 0)) 142 0 (nI 0))) (Q := Q2) (j9 := j9) (by omega) hW (by omega) hgo 49 0 (by decide) (by decide)
          rw [cpF_0, rI_self] at w9
          exact w9
        · -- 11 not: ¬ nI j9 < nI yk
          have kr11 : yk ≤ j9 := knlt (a := j9) (b := yk) rfl rfl (by omega) (by omega) cr11
          omega
