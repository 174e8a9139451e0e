def frP (off : Nat → Int32) (n : Nat) (gr : Int32) (t s u : Nat) : Prop := bq gr (nI s) ∧ hoF off t s (nI u) n = 0
/-- no point before (t, s, u) is free -/
def Bfr (P : Nat → Nat → Nat → Prop) (nt t s u : Nat) : Prop := ∀ t1 s1 h1, t1 < nt → s1 < 5 → h1 < 24 → (t1 < t ∨ t1 = t ∧ (s1 < s ∨ s1 = s ∧ h1 < u)) → ¬ P t1 s1 h1
theorem Bf_u {P : Nat → Nat → Nat → Prop} {nt t s u : Nat} (h : Bfr P nt t s u) (hn : ¬ P t s u) : Bfr P nt t s (u + 1) := fun t1 s1 h1 a b g hl => by
  by_cases e : t1 = t ∧ s1 = s ∧ h1 = u
  · rw [e.1, e.2.1, e.2.2]; exact hn
  · exact h t1 s1 h1 a b g (by omega)
theorem Bf_s {P : Nat → Nat → Nat → Prop} {nt t s : Nat} (h : Bfr P nt t s 24) : Bfr P nt t (s + 1) 0 := fun t1 s1 h1 a b g hl => h t1 s1 h1 a b g (by omega)
theorem Bf_t {P : Nat → Nat → Nat → Prop} {nt t : Nat} (h : Bfr P nt t 5 0) : Bfr P nt (t + 1) 0 0 := fun t1 s1 h1 a b g hl => h t1 s1 h1 a b g (by omega)
theorem Bf_0 {P : Nat → Nat → Nat → Prop} {nt : Nat} : Bfr P nt 0 0 0 := fun t1 s1 h1 a b g hl => by omega
theorem Bf_x {P : Nat → Nat → Nat → Prop} {nt t s u t2 s2 u2 : Nat} (ht : t < nt) (hs : s < 5) (hu : u < 24) (h : P t s u) (hb : Bfr P nt t s u) (ht2 : t2 < nt) (hs2 : s2 < 5) (hu2 : u2 < 24) (h2 : P t2 s2 u2) (hb2 : Bfr P nt t2 s2 u2) : t = t2 ∧ s = s2 ∧ u = u2 := by
  have a := hb t2 s2 u2 ht2 hs2 hu2
  have b := hb2 t s u ht hs hu
  by_cases ez1 : t2 < t ∨ t2 = t ∧ (s2 < s ∨ s2 = s ∧ u2 < u)
  · exact absurd h2 (a ez1)
  · by_cases ez2 : t < t2 ∨ t = t2 ∧ (s < s2 ∨ s = s2 ∧ u < u2)
    · exact absurd h (b ez2)
    · omega
theorem lfn_a {sc : Nat × (Nat → Int32)} {d : Nat} {m : Mm} {Q : Option Value → Mm → Prop} {q n nt : Nat} (hd : 3 ≤ d) (hW : Wd m.2.2) (hN : NW m.2.2 q) (h158 : 158 ≤ q) (hq : va_rf (mR m 142 3) = .ref q) (hn : mI m q 6 = nI n) (hn6 : n ≤ 6) (hnt : mI m q 5 = nI nt) (hnt6 : nt ≤ 6) (hQ : ∀ t s u, t < nt → s < 5 → u < 24 → frP (mI m (q + 7)) n (mI m q 4) t s u → Bfr (frP (mI m (q + 7)) n (mI m q 4)) nt t s u → Q (some (.int (nI 1000 * nI t + nI 100 * nI s + nI u))) (uI (uI m 142 1 (nI 0)) 142 2 (-nI 1))) (hN2 : Bfr (frP (mI m (q + 7)) n (mI m q 4)) nt nt 0 0 → Q (some (.int (-nI 2))) (uI (uI m 142 1 (nI 0)) 142 2 (-nI 1))) {t s : Nat} (ht : t < nt) (hs : s < 5) (hk : Bfr (frP (mI m (q + 7)) n (mI m q 4)) nt t (s + 1) 0 → Jj sc d 0 0 (mth 265) (pg P265 19).1 [some (.ref 142), some (.int (nI t)), some (.int (nI (s + 1))), none] [] m 0 0 Q)  : ∀ (j u : Nat), u ≤ 24 → 24 + 1 ≤ u + j → (Bfr (frP (mI m (q + 7)) n (mI m q 4)) nt t s u) → Jj sc d 0 0 (mth 265) (pg P265 24).1 [some (.ref 142), some (.int (nI t)), some (.int (nI s)), some (.int (nI u))] [] m 0 0 Q := by
  intro j
  induction j with
  | zero => intro u h1 h2 hall; omega
  | succ j ih =>
    intro u h1 h2 hall
    refine J_w z265 (i := 24) (by decide) 138 ?_
    refine And.intro (fun cz26 => ?_) (fun cz26 => ?_)
    · -- 26 taken: nI 24 ≤ nI u
      have kz26 : 24 ≤ u := kle (a := 24) (b := u) rfl rfl (by omega) (by omega) cz26
      show Jj sc d 0 0 (mth 265) (pg P265 19).1 [some (.ref 142), some (.int (nI t)), some (.int (nI s + nI 1)), some (.int (nI u))] [] m 0 0 Q
      rw [show nI s + nI 1 = nI (s + 1) from by simp only [nI_add, pk_mul]]
      refine J_wk (L' := [some (.ref 142), some (.int (nI t)), some (.int (nI (s + 1))), none]) ⟨rfl, rfl, rfl, trivial⟩ ?_
      rw [show u = 24 by omega] at hall
      exact hk (Bf_s hall)
    · -- 26 not: ¬ nI 24 ≤ nI u
      have kz26 : u < 24 := knle (a := 24) (b := u) rfl rfl (by omega) (by omega) cz26
      refine And.intro ⟨by omega, Nat.le_of_ble_eq_true rfl, Nat.le_refl _, Nat.le_refl _⟩ (And.intro (Wdo_142 hW) ?_)
      refine C260 hW hN hq (by omega) ?_
      refine And.intro (fun cz30 => ?_) (fun cz30 => ?_)
      · -- 30 taken: bi (bq (mI m q 4) (nI s)) = 0
        show Jj sc d 0 0 (mth 265) (pg P265 24).1 [some (.ref 142), some (.int (nI t)), some (.int (nI s)), some (.int (nI u + nI 1))] [] m 0 0 Q
        rw [show nI u + nI 1 = nI (u + 1) from by simp only [nI_add, pk_mul]]
        exact ih (u + 1) (by omega) (by omega) (Bf_u hall (fun z => bi_eq0.mp cz30 z.1))
      · -- 30 not: ¬ bi (bq (mI m q 4) (nI s)) = 0
        refine And.intro ⟨by omega, Nat.le_of_ble_eq_true rfl, Nat.le_refl _, Nat.le_refl _⟩ (And.intro (Wdo_142 hW) ?_)
        refine C258 (t := t) (s := s) (by omega) hW hN h158 hq hn hn6 hnt hnt6 (by omega) (by omega) ?_
        refine And.intro (fun cz36 => ?_) (fun cz36 => ?_)
        · -- 36 taken: ¬ hoF (mI m (q + 7)) t s (nI u) n = 0
          show Jj sc d 0 0 (mth 265) (pg P265 24).1 [some (.ref 142), some (.int (nI t)), some (.int (nI s)), some (.int (nI u + nI 1))] [] m 0 0 Q
          rw [show nI u + nI 1 = nI (u + 1) from by simp only [nI_add, pk_mul]]
          exact ih (u + 1) (by omega) (by omega) (Bf_u hall (fun z => cz36 z.2))
        · -- 36 not: hoF (mI m (q + 7)) t s (nI u) n = 0
          refine And.intro ⟨by omega, Nat.le_of_ble_eq_true rfl, Nat.le_refl _, Nat.le_refl _⟩ (And.intro (Wdo_142 hW) ?_)
          refine C202 hW ?_
          refine And.intro ⟨rfl, trivial, Nat.le_refl _, Nat.le_refl _⟩ ?_
          exact hQ t s u ht hs (by omega) ⟨bi_ne0.mp cz30, cz36⟩ hall
theorem lfn_b {sc : Nat × (Nat → Int32)} {d : Nat} {m : Mm} {Q : Option Value → Mm → Prop} {q n nt : Nat} (hd : 3 ≤ d) (hW : Wd m.2.2) (hN : NW m.2.2 q) (h158 : 158 ≤ q) (hq : va_rf (mR m 142 3) = .ref q) (hn : mI m q 6 = nI n) (hn6 : n ≤ 6) (hnt : mI m q 5 = nI nt) (hnt6 : nt ≤ 6) (hQ : ∀ t s u, t < nt → s < 5 → u < 24 → frP (mI m (q + 7)) n (mI m q 4) t s u → Bfr (frP (mI m (q + 7)) n (mI m q 4)) nt t s u → Q (some (.int (nI 1000 * nI t + nI 100 * nI s + nI u))) (uI (uI m 142 1 (nI 0)) 142 2 (-nI 1))) (hN2 : Bfr (frP (mI m (q + 7)) n (mI m q 4)) nt nt 0 0 → Q (some (.int (-nI 2))) (uI (uI m 142 1 (nI 0)) 142 2 (-nI 1))) {t : Nat} (ht : t < nt) (hk : Bfr (frP (mI m (q + 7)) n (mI m q 4)) nt (t + 1) 0 0 → Jj sc d 0 0 (mth 265) (pg P265 12).1 [some (.ref 142), some (.int (nI (t + 1))), none, none] [] m 0 0 Q)  : ∀ (j s : Nat), s ≤ 5 → 5 + 1 ≤ s + j → (Bfr (frP (mI m (q + 7)) n (mI m q 4)) nt t s 0) → Jj sc d 0 0 (mth 265) (pg P265 19).1 [some (.ref 142), some (.int (nI t)), some (.int (nI s)), none] [] m 0 0 Q := by
  intro j
  induction j with
  | zero => intro s h1 h2 hall; omega
  | succ j ih =>
    intro s h1 h2 hall
    refine J_w z265 (i := 19) (by decide) 138 ?_
    refine And.intro (fun cz21 => ?_) (fun cz21 => ?_)
    · -- 21 taken: nI 5 ≤ nI s
      have kz21 : 5 ≤ s := kle (a := 5) (b := s) rfl rfl (by omega) (by omega) cz21
      show Jj sc d 0 0 (mth 265) (pg P265 12).1 [some (.ref 142), some (.int (nI t + nI 1)), some (.int (nI s)), none] [] m 0 0 Q
      rw [show nI t + nI 1 = nI (t + 1) from by simp only [nI_add, pk_mul]]
      refine J_wk (L' := [some (.ref 142), some (.int (nI (t + 1))), none, none]) ⟨rfl, rfl, trivial⟩ ?_
      rw [show s = 5 by omega] at hall
      exact hk (Bf_t hall)
    · -- 21 not: ¬ nI 5 ≤ nI s
      have kz21 : s < 5 := knle (a := 5) (b := s) rfl rfl (by omega) (by omega) cz21
      show Jj sc d 0 0 (mth 265) (pg P265 24).1 [some (.ref 142), some (.int (nI t)), some (.int (nI s)), some (.int (nI 0))] [] m 0 0 Q
      exact lfn_a (by omega) hW hN h158 hq hn hn6 hnt hnt6 hQ hN2 ht kz21 (fun hb9 => ih (s + 1) (by omega) (by omega) hb9) 25 0 (by decide) (by decide) hall
theorem lfn_c {sc : Nat × (Nat → Int32)} {d : Nat} {m : Mm} {Q : Option Value → Mm → Prop} {q n nt : Nat} (hd : 3 ≤ d) (hW : Wd m.2.2) (hN : NW m.2.2 q) (h158 : 158 ≤ q) (hq : va_rf (mR m 142 3) = .ref q) (hn : mI m q 6 = nI n) (hn6 : n ≤ 6) (hnt : mI m q 5 = nI nt) (hnt6 : nt ≤ 6) (hQ : ∀ t s u, t < nt → s < 5 → u < 24 → frP (mI m (q + 7)) n (mI m q 4) t s u → Bfr (frP (mI m (q + 7)) n (mI m q 4)) nt t s u → Q (some (.int (nI 1000 * nI t + nI 100 * nI s + nI u))) (uI (uI m 142 1 (nI 0)) 142 2 (-nI 1))) (hN2 : Bfr (frP (mI m (q + 7)) n (mI m q 4)) nt nt 0 0 → Q (some (.int (-nI 2))) (uI (uI m 142 1 (nI 0)) 142 2 (-nI 1)))  : ∀ (j t : Nat), t ≤ nt → nt + 1 ≤ t + j → (Bfr (frP (mI m (q + 7)) n (mI m q 4)) nt t 0 0) → Jj sc d 0 0 (mth 265) (pg P265 12).1 [some (.ref 142), some (.int (nI t)), none, none] [] m 0 0 Q := by
  intro j
  induction j with
  | zero => intro t h1 h2 hall; omega
  | succ j ih =>
    intro t h1 h2 hall
    refine J_w z265 (i := 12) (by decide) 138 ?_
    refine And.intro (Wdo_142 hW) (Exists.intro _ (And.intro hq ?_))
    refine And.intro (NWo_0 hN) ?_
    rw [hnt]
    refine And.intro (fun cz16 => ?_) (fun cz16 => ?_)
    · -- 16 taken: nI nt ≤ nI t
      have kz16 : nt ≤ t := kle (a := nt) (b := t) rfl rfl (by omega) (by omega) cz16
      refine And.intro ⟨by omega, Nat.le_of_ble_eq_true rfl, Nat.le_refl _, Nat.le_refl _⟩ (And.intro (Wdo_142 hW) ?_)
      refine C202 hW ?_
      refine And.intro ⟨rfl, trivial, Nat.le_refl _, Nat.le_refl _⟩ ?_
      rw [show t = nt by omega] at hall
      exact hN2 hall
    · -- 16 not: ¬ nI nt ≤ nI t
      have kz16 : t < nt := knle (a := nt) (b := t) rfl rfl (by omega) (by omega) cz16
      show Jj sc d 0 0 (mth 265) (pg P265 19).1 [some (.ref 142), some (.int (nI t)), some (.int (nI 0)), none] [] m 0 0 Q
      exact lfn_b (by omega) hW hN h158 hq hn hn6 hnt hnt6 hQ hN2 kz16 (fun hb9 => ih (t + 1) (by omega) (by omega) hb9) 6 0 (by decide) (by decide) hall
theorem P_firstNobodys {d : Nat} {m : Mm} {Q : Option Value → Mm → Prop} {z : Nat} (hd : 16 ≤ d) (hR : Rel z m) (h : ∀ (r : Int32) m1, Wd m1.2.2 → (∀ Q2 : Option Value → Mm → Prop, (∀ m2, Rel z m2 → Q2 (some (.int r)) m2) → Cc d 0 0 265 [.ref 142] m1 Q2) → Q (some (.int r)) m1) : Cc d 0 0 130 [.ref 0] m Q := by
  obtain ⟨hW, hz, hS, a, b, hA, hX⟩ := id hR
  obtain ⟨hL, hLb, hab, ha, hb⟩ := RelA_L hW hA
  obtain ⟨n2r, hn2, bn2, ln2⟩ := RL_n (s := 2) (f := 5) hX.2.2.1 (by decide) (fun _ _ h => h.2.2.2.2.2.1)
  change n2r ≤ 6 at bn2
  obtain ⟨n4r, hn4, bn4, ln4⟩ := RL_n (s := 4) (f := 6) hX.2.2.1 (by decide) (fun _ _ h => h.2.2.2.2.2.2.1)
  change n4r ≤ 6 at bn4
  obtain ⟨n8r, hn8, bn8, ln8⟩ := RL_n (s := 8) (f := 10) hX.2.2.1 (by decide) (fun _ _ h => h.2.2.2.2.2.2.2.2.2.2.1)
  change n8r ≤ 8 at bn8
  obtain ⟨n10r, hn10, bn10, ln10⟩ := RL_n (s := 10) (f := 12) hX.2.2.1 (by decide) (fun _ _ h => h.2.2.2.2.2.2.2.2.2.2.2.2.1)
  change n10r ≤ 4 at bn10
  rcases RL_st hX.2.2.1 with ⟨hL0, hst0⟩ | ⟨q, hq1, hst0⟩
  · skip
    refine ent (n := 48) z130 (by decide) rfl (by decide) (Nat.le_of_ble_eq_true rfl) (fun sc => ?_)
    refine And.intro (Wdo_0 hW) (Exists.intro _ (And.intro ha ?_))
    refine And.intro ⟨by omega, Nat.le_of_ble_eq_true rfl, Nat.le_refl _, Nat.le_refl _⟩ (And.intro (LWo_0 hL) ?_)
    refine C21 hL ?_
    refine And.intro (fun cz3 => ?_) (fun cz3 => False.elim (absurd (bi_ne0.mp cz3) (hst0)))
    refine And.intro ⟨by omega, Nat.le_of_ble_eq_true rfl, Nat.le_refl _, Nat.le_refl _⟩ (And.intro (Wdo_0 hW) ?_)
    refine C176 hW ?_
    refine And.intro ⟨rfl, trivial, Nat.le_refl _, Nat.le_refl _⟩ ?_
    refine h _ _ hW (fun Q2 h2 => ?_)
    refine ent (n := 138) z265 (by decide) rfl (by decide) (Nat.le_of_ble_eq_true rfl) (fun sc2 => ?_)
    refine And.intro (Wdo_142 hW) ?_
    refine And.intro (Wdo_142 hW) (Exists.intro _ (And.intro (show va_rf (mR m 142 3) = .null by rw [hL0.1]; rfl) ?_))
    refine And.intro ⟨by omega, Nat.le_of_ble_eq_true rfl, Nat.le_refl _, Nat.le_refl _⟩ (And.intro (Wdo_142 hW) ?_)
    refine C200 (m := (uI (uI m 0 0 (nI 1)) 142 0 (nI 0))) hW ?_
    refine And.intro ⟨rfl, trivial, Nat.le_refl _, Nat.le_refl _⟩ ?_
    exact h2 _ (Rel_ans hR (by decide))
  · skip
    obtain ⟨hq, w, u, ha0, ha1, hq0, hq1w, hw6, hu4, hwu, hgr⟩ := RL_q hq1
    obtain ⟨h158, hqz, hN, h3, ⟨T, hI⟩, hst, hla, hLQ, hSR⟩ := hq1
    have hq6 : mI m q 6 = nI n4r := hLQ.1.2.2.2.2.2.2.1.trans hn4
    have hq5 : mI m q 5 = nI n2r := hLQ.1.2.2.2.2.2.1.trans hn2
    refine ent (n := 48) z130 (by decide) rfl (by decide) (Nat.le_of_ble_eq_true rfl) (fun sc => ?_)
    refine And.intro (Wdo_0 hW) (Exists.intro _ (And.intro ha ?_))
    refine And.intro ⟨by omega, Nat.le_of_ble_eq_true rfl, Nat.le_refl _, Nat.le_refl _⟩ (And.intro (LWo_0 hL) ?_)
    refine C21 hL ?_
    refine And.intro (fun cz3 => False.elim (absurd (hst0) (bi_eq0.mp cz3))) (fun cz3 => ?_)
    refine And.intro (Wdo_0 hW) (Exists.intro _ (And.intro ha ?_))
    refine And.intro ⟨by omega, Nat.le_of_ble_eq_true rfl, Nat.le_refl _, Nat.le_refl _⟩ ?_
    refine C40 (by omega) hL ha0 ha1 hwu hn2 (by omega) hn4 (by omega) (fun t s u9 fa fb fc fd fe ff => ?_) (fun hno => ?_)
    · -- a way behind the call
      refine And.intro ⟨by omega, Nat.le_of_ble_eq_true rfl, Nat.le_refl _, Nat.le_refl _⟩ (And.intro (Wdo_0 hW) ?_)
      refine C177 hW ?_
      refine And.intro ⟨rfl, trivial, Nat.le_refl _, Nat.le_refl _⟩ ?_
      refine h _ _ hW (fun Q2 h2 => ?_)
      refine ent (n := 138) z265 (by decide) rfl (by decide) (Nat.le_of_ble_eq_true rfl) (fun sc2 => ?_)
      refine And.intro (Wdo_142 hW) ?_
      refine And.intro (Wdo_142 hW) (Exists.intro _ (And.intro hq ?_))
      show Jj sc2 d 0 0 (mth 265) (pg P265 12).1 [some (.ref 142), some (.int (nI 0)), none, none] [] (uI (uI m 0 0 (nI 0)) 142 0 (nI 0)) 0 0 Q2
      have hfe : ∀ t1 s1 h1, t1 < n2r → s1 < 5 → (frP (mI (uI (uI m 0 0 (nI 0)) 142 0 (nI 0)) (q + 7)) n4r (mI (uI (uI m 0 0 (nI 0)) 142 0 (nI 0)) q 4) t1 s1 h1 ↔ (bq (grF (mI m (a + 2)) (w * u)) (nI s1) ∧ hoF (mI m (a + 7)) t1 s1 (nI h1) n4r = 0)) := fun t1 s1 h1 hx1 hx2 => by
        unfold frP
        rw [uI_ne (b := q + 7) (by omega), uI_ne (b := q + 7) (by omega), uI_ne (b := q) (by omega), uI_ne (b := q) (by omega), hgr, hoF_c (f := mI m (q + 7)) (g := mI m (a + 7)) hLQ.2.2.2.2.2.1 (by omega) (by omega) (by omega)]
      have hb1 : Bfr (frP (mI (uI (uI m 0 0 (nI 0)) 142 0 (nI 0)) (q + 7)) n4r (mI (uI (uI m 0 0 (nI 0)) 142 0 (nI 0)) q 4)) n2r t s u9 := fun t1 s1 hh1 x1 x2 x3 x4 x5 => ff t1 s1 hh1 x1 x2 x3 ((hfe t1 s1 hh1 x1 x2).mp x5).1 x4 ((hfe t1 s1 hh1 x1 x2).mp x5).2
      have hf1 := (hfe t s u9 fa fb).mpr ⟨fd, fe⟩
      refine lfn_c (m := (uI (uI m 0 0 (nI 0)) 142 0 (nI 0))) (q := q) (n := n4r) (nt := n2r) (by omega) hW hN h158 hq (show mI (uI (uI m 0 0 (nI 0)) 142 0 (nI 0)) q 6 = nI n4r by rw [uI_ne (by omega), uI_ne (by omega)]; exact hq6) (by omega) (show mI (uI (uI m 0 0 (nI 0)) 142 0 (nI 0)) q 5 = nI n2r by rw [uI_ne (by omega), uI_ne (by omega)]; exact hq5) (by omega) (fun t2 s2 u2 g1 g2 g3 g4 g5 => ?_) (fun g5 => ?_) (n2r + 1) 0 (Nat.zero_le _) (by omega) Bf_0
      · obtain ⟨r1, r2, r3⟩ := Bf_x g1 g2 g3 g4 g5 fa fb fc hf1 hb1
        rw [r1, r2, r3]
        exact h2 _ (Rel_ans hR (by decide))
      · exact absurd hf1 (g5 t s u9 fa fb fc (Or.inl fa))
    · -- a way behind the call
      refine And.intro ⟨by omega, Nat.le_of_ble_eq_true rfl, Nat.le_refl _, Nat.le_refl _⟩ (And.intro (Wdo_0 hW) ?_)
      refine C177 hW ?_
      refine And.intro ⟨rfl, trivial, Nat.le_refl _, Nat.le_refl _⟩ ?_
      refine h _ _ hW (fun Q2 h2 => ?_)
      refine ent (n := 138) z265 (by decide) rfl (by decide) (Nat.le_of_ble_eq_true rfl) (fun sc2 => ?_)
      refine And.intro (Wdo_142 hW) ?_
      refine And.intro (Wdo_142 hW) (Exists.intro _ (And.intro hq ?_))
      show Jj sc2 d 0 0 (mth 265) (pg P265 12).1 [some (.ref 142), some (.int (nI 0)), none, none] [] (uI (uI m 0 0 (nI 0)) 142 0 (nI 0)) 0 0 Q2
      have hfe : ∀ t1 s1 h1, t1 < n2r → s1 < 5 → (frP (mI (uI (uI m 0 0 (nI 0)) 142 0 (nI 0)) (q + 7)) n4r (mI (uI (uI m 0 0 (nI 0)) 142 0 (nI 0)) q 4) t1 s1 h1 ↔ (bq (grF (mI m (a + 2)) (w * u)) (nI s1) ∧ hoF (mI m (a + 7)) t1 s1 (nI h1) n4r = 0)) := fun t1 s1 h1 hx1 hx2 => by
        unfold frP
        rw [uI_ne (b := q + 7) (by omega), uI_ne (b := q + 7) (by omega), uI_ne (b := q) (by omega), uI_ne (b := q) (by omega), hgr, hoF_c (f := mI m (q + 7)) (g := mI m (a + 7)) hLQ.2.2.2.2.2.1 (by omega) (by omega) (by omega)]
      refine lfn_c (m := (uI (uI m 0 0 (nI 0)) 142 0 (nI 0))) (q := q) (n := n4r) (nt := n2r) (by omega) hW hN h158 hq (show mI (uI (uI m 0 0 (nI 0)) 142 0 (nI 0)) q 6 = nI n4r by rw [uI_ne (by omega), uI_ne (by omega)]; exact hq6) (by omega) (show mI (uI (uI m 0 0 (nI 0)) 142 0 (nI 0)) q 5 = nI n2r by rw [uI_ne (by omega), uI_ne (by omega)]; exact hq5) (by omega) (fun t2 s2 u2 g1 g2 g3 g4 g5 => ?_) (fun g5 => ?_) (n2r + 1) 0 (Nat.zero_le _) (by omega) Bf_0
      · have x5 := (hfe t2 s2 u2 g1 g2).mp g4
        exact absurd x5.2 (hno t2 s2 u2 g1 g2 g3 x5.1)
      · exact h2 _ (Rel_ans hR (by decide))
