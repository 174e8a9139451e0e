theorem hoF_c {f g : Nat → Int32} {t s n : Nat} {h : Int32} (he : ∀ x, x < 180 → f x = g x) (ht : t < 6) (hs : s < 5) (hn : n ≤ 6) : hoF f t s h n = hoF g t s h n := by
  unfold hoF
  exact fo_c (fun i hi y => by rw [he _ (by omega)])
theorem heF_c {f g : Nat → Int32} {a b nt : Nat} {gr : Int32} (he : ∀ x, x < 180 → f x = g x) (ha : a < 6) (hb : b < 6) (hn : nt ≤ 6) : heF f a b gr nt = heF g a b gr nt := by
  unfold heF
  refine fo_c (fun t ht y => ?_)
  unfold heT
  refine fo_c (fun s hs y => ?_)
  unfold heS
  rw [he _ (by omega), he _ (by omega)]
theorem P_has {d : Nat} {m : Mm} {Q : Option Value → Mm → Prop} {z : Nat} {h9 v x y : Int32} (hd : 16 ≤ d) (hR : Rel z m) (h : ∀ (r : Int32) m1, Wd m1.2.2 → (∀ Q2 : Option Value → Mm → Prop, (∀ m2, Rel z m2 → Q2 (some (.int r)) m2) → Cc d 0 0 257 [.ref 142, .int x, .int y, .int v, .int h9] m1 Q2) → Q (some (.int r)) m1) : Cc d 0 0 125 [.ref 0, .int x, .int y, .int v, .int h9] m Q := by
  obtain ⟨hW, hz, hS, a, b, hA, hX⟩ := id hR
  obtain ⟨hL, hLb, hab, ha, hb⟩ := RelA_L hW hA
  obtain ⟨n2r, hn2, bn2, ln2⟩ := RL_n (s := 2) (f := 5) hX.2.2.1 (by decide) (fun _ _ h => h.2.2.2.2.2.1)
  change n2r ≤ 6 at bn2
  obtain ⟨n4r, hn4, bn4, ln4⟩ := RL_n (s := 4) (f := 6) hX.2.2.1 (by decide) (fun _ _ h => h.2.2.2.2.2.2.1)
  change n4r ≤ 6 at bn4
  obtain ⟨n8r, hn8, bn8, ln8⟩ := RL_n (s := 8) (f := 10) hX.2.2.1 (by decide) (fun _ _ h => h.2.2.2.2.2.2.2.2.2.2.1)
  change n8r ≤ 8 at bn8
  obtain ⟨n10r, hn10, bn10, ln10⟩ := RL_n (s := 10) (f := 12) hX.2.2.1 (by decide) (fun _ _ h => h.2.2.2.2.2.2.2.2.2.2.2.2.1)
  change n10r ≤ 4 at bn10
  refine ent (n := 86) z125 (by decide) rfl (by decide) (Nat.le_of_ble_eq_true rfl) (fun sc => ?_)
  refine And.intro ⟨by omega, Nat.le_of_ble_eq_true rfl, Nat.le_refl _, Nat.le_refl _⟩ (And.intro (Wdo_0 hW) ?_)
  refine C181 (by omega) hW ha hL hn4 (by omega) ?_
  refine And.intro (fun cz3 => ?_) (fun cz3 => ?_)
  · -- 3 taken: bi (iR x n4r) = 0
    refine And.intro ⟨by omega, Nat.le_of_ble_eq_true rfl, Nat.le_refl _, Nat.le_refl _⟩ (And.intro (Wdo_0 hW) ?_)
    refine C176 hW ?_
    refine And.intro ⟨rfl, trivial, Nat.le_refl _, Nat.le_refl _⟩ ?_
    refine h _ _ hW (fun Q2 h2 => ?_)
    refine ent (n := 96) z257 (by decide) rfl (by decide) (Nat.le_of_ble_eq_true rfl) (fun sc2 => ?_)
    refine And.intro (Wdo_142 hW) ?_
    refine And.intro ⟨by omega, Nat.le_of_ble_eq_true rfl, Nat.le_refl _, Nat.le_refl _⟩ (And.intro (Wdo_142 hW) ?_)
    refine C247 (m := (uI (uI m 0 0 (nI 1)) 142 0 (nI 0))) (by omega) hW (LN_u (LN_u ln4 (by decide)) (by decide)) (by omega) ?_
    refine And.intro (fun cr6 => ?_) (fun cr6 => False.elim (absurd (bi_ne0.mp cr6) (bi_eq0.mp cz3)))
    refine And.intro ⟨by omega, Nat.le_of_ble_eq_true rfl, Nat.le_refl _, Nat.le_refl _⟩ (And.intro (Wdo_142 hW) ?_)
    refine C200 (m := (uI (uI m 0 0 (nI 1)) 142 0 (nI 0))) hW ?_
    refine And.intro ⟨rfl, trivial, Nat.le_refl _, Nat.le_refl _⟩ ?_
    exact h2 _ (Rel_ans hR (by decide))
  · -- 3 not: ¬ bi (iR x n4r) = 0
    refine And.intro ⟨by omega, Nat.le_of_ble_eq_true rfl, Nat.le_refl _, Nat.le_refl _⟩ (And.intro (Wdo_0 hW) ?_)
    refine C182 (by omega) hW ha hL hn2 (by omega) ?_
    refine And.intro (fun cz7 => ?_) (fun cz7 => ?_)
    · -- 7 taken: bi (iR y n2r) = 0
      refine And.intro ⟨by omega, Nat.le_of_ble_eq_true rfl, Nat.le_refl _, Nat.le_refl _⟩ (And.intro (Wdo_0 hW) ?_)
      refine C176 hW ?_
      refine And.intro ⟨rfl, trivial, Nat.le_refl _, Nat.le_refl _⟩ ?_
      refine h _ _ hW (fun Q2 h2 => ?_)
      refine ent (n := 96) z257 (by decide) rfl (by decide) (Nat.le_of_ble_eq_true rfl) (fun sc2 => ?_)
      refine And.intro (Wdo_142 hW) ?_
      refine And.intro ⟨by omega, Nat.le_of_ble_eq_true rfl, Nat.le_refl _, Nat.le_refl _⟩ (And.intro (Wdo_142 hW) ?_)
      refine C247 (m := (uI (uI m 0 0 (nI 1)) 142 0 (nI 0))) (by omega) hW (LN_u (LN_u ln4 (by decide)) (by decide)) (by omega) ?_
      refine And.intro (fun cr6 => False.elim (absurd (bi_ne0.mp cz3) (bi_eq0.mp cr6))) (fun cr6 => ?_)
      refine And.intro ⟨by omega, Nat.le_of_ble_eq_true rfl, Nat.le_refl _, Nat.le_refl _⟩ (And.intro (Wdo_142 hW) ?_)
      refine C248 (m := (uI (uI m 0 0 (nI 1)) 142 0 (nI 0))) (by omega) hW (LN_u (LN_u ln2 (by decide)) (by decide)) (by omega) ?_
      refine And.intro (fun cr10 => ?_) (fun cr10 => False.elim (absurd (bi_ne0.mp cr10) (bi_eq0.mp cz7)))
      refine And.intro ⟨by omega, Nat.le_of_ble_eq_true rfl, Nat.le_refl _, Nat.le_refl _⟩ (And.intro (Wdo_142 hW) ?_)
      refine C200 (m := (uI (uI m 0 0 (nI 1)) 142 0 (nI 0))) hW ?_
      refine And.intro ⟨rfl, trivial, Nat.le_refl _, Nat.le_refl _⟩ ?_
      exact h2 _ (Rel_ans hR (by decide))
    · -- 7 not: ¬ bi (iR y n2r) = 0
      refine And.intro ⟨by omega, Nat.le_of_ble_eq_true rfl, Nat.le_refl _, Nat.le_refl _⟩ ?_
      refine C183 ?_
      refine And.intro (fun cz10 => ?_) (fun cz10 => ?_)
      · -- 10 taken: ¬ bi (iR v 5) = 0
        obtain ⟨g, hg, rfl⟩ := bi_ne0.mp cz3
        obtain ⟨t, ht, rfl⟩ := bi_ne0.mp cz7
        obtain ⟨s, hs, rfl⟩ := bi_ne0.mp cz10
        obtain ⟨q, hq1⟩ := RL_1 (s := 4) hX.2.2.1 (by decide) hn4 (show 0 < n4r by omega) (by omega)
        obtain ⟨hq, w, u, ha0, ha1, hq0, hq1w, hw6, hu4, hwu, hgr⟩ := RL_q hq1
        obtain ⟨h158, hqz, hN, h3, ⟨T, hI⟩, hst, hla, hLQ, hSR⟩ := hq1
        have hq6 : mI m q 6 = nI n4r := hLQ.1.2.2.2.2.2.2.1.trans hn4
        have hq5 : mI m q 5 = nI n2r := hLQ.1.2.2.2.2.2.1.trans hn2
        refine And.intro ⟨by omega, Nat.le_of_ble_eq_true rfl, Nat.le_refl _, Nat.le_refl _⟩ ?_
        refine C184 ?_
        refine And.intro (fun cz17 => ?_) (fun cz17 => ?_)
        · -- 17 taken: ¬ bi (iR h9 24) = 0
          refine And.intro (Wdo_0 hW) (Exists.intro _ (And.intro ha ?_))
          refine And.intro ⟨by omega, Nat.le_of_ble_eq_true rfl, Nat.le_refl _, Nat.le_refl _⟩ (And.intro (LWo_0 hL) ?_)
          refine C31 (g := g) (t := t) (s := s) hL (by omega) (by omega) (by omega) ?_
          refine And.intro ⟨by omega, Nat.le_of_ble_eq_true rfl, Nat.le_refl _, Nat.le_refl _⟩ ?_
          refine C180 ?_
          refine And.intro ⟨by omega, Nat.le_of_ble_eq_true rfl, Nat.le_refl _, Nat.le_refl _⟩ (And.intro (Wdo_0 hW) ?_)
          refine C177 hW ?_
          refine And.intro ⟨rfl, trivial, Nat.le_refl _, Nat.le_refl _⟩ ?_
          refine h _ _ hW (fun Q2 h2 => ?_)
          refine ent (n := 96) z257 (by decide) rfl (by decide) (Nat.le_of_ble_eq_true rfl) (fun sc2 => ?_)
          refine And.intro (Wdo_142 hW) ?_
          refine And.intro ⟨by omega, Nat.le_of_ble_eq_true rfl, Nat.le_refl _, Nat.le_refl _⟩ (And.intro (Wdo_142 hW) ?_)
          refine C247 (m := (uI (uI m 0 0 (nI 0)) 142 0 (nI 0))) (by omega) hW (LN_u (LN_u ln4 (by decide)) (by decide)) (by omega) ?_
          refine And.intro (fun cr6 => False.elim (absurd (bi_ne0.mp cz3) (bi_eq0.mp cr6))) (fun cr6 => ?_)
          refine And.intro ⟨by omega, Nat.le_of_ble_eq_true rfl, Nat.le_refl _, Nat.le_refl _⟩ (And.intro (Wdo_142 hW) ?_)
          refine C248 (m := (uI (uI m 0 0 (nI 0)) 142 0 (nI 0))) (by omega) hW (LN_u (LN_u ln2 (by decide)) (by decide)) (by omega) ?_
          refine And.intro (fun cr10 => False.elim (absurd (bi_ne0.mp cz7) (bi_eq0.mp cr10))) (fun cr10 => ?_)
          refine And.intro ⟨by omega, Nat.le_of_ble_eq_true rfl, Nat.le_refl _, Nat.le_refl _⟩ ?_
          refine C251 (m := (uI (uI m 0 0 (nI 0)) 142 0 (nI 0))) ?_
          refine And.intro (fun cr13 => ?_) (fun cr13 => False.elim (absurd (bi_ne0.mp cz10) (bi_eq0.mp cr13)))
          refine And.intro ⟨by omega, Nat.le_of_ble_eq_true rfl, Nat.le_refl _, Nat.le_refl _⟩ ?_
          refine C252 (m := (uI (uI m 0 0 (nI 0)) 142 0 (nI 0))) ?_
          refine And.intro (fun cr20 => False.elim (absurd (bi_ne0.mp cz17) (bi_eq0.mp cr20))) (fun cr20 => ?_)
          refine And.intro ⟨by omega, Nat.le_of_ble_eq_true rfl, Nat.le_refl _, Nat.le_refl _⟩ (And.intro (Wdo_142 hW) ?_)
          refine C256 (m := (uI (uI m 0 0 (nI 0)) 142 0 (nI 0))) (g := g) (t := t) (s := s) hW hN hq (by omega) (by omega) (by omega) (by omega) ?_
          rw [uI_ne (m := (uI m 0 0 (nI 0))) (a := 142) (b := (q + 7)) (by omega)]
          rw [uI_ne (m := m) (a := 0) (b := (q + 7)) (by omega)]
          refine And.intro (fun cr28 => ?_) (fun cr28 => ?_)
          · -- 28 taken: bi (bq (mI m (q + 7) ((g * 6 + t) * 5 + s)) h9) = 0
            refine And.intro ⟨by omega, Nat.le_of_ble_eq_true rfl, Nat.le_refl _, Nat.le_refl _⟩ (And.intro (Wdo_142 hW) ?_)
            refine C202 (m := (uI (uI m 0 0 (nI 0)) 142 0 (nI 0))) hW ?_
            refine And.intro ⟨rfl, trivial, Nat.le_refl _, Nat.le_refl _⟩ ?_
            rw [show mI m (q + 7) ((g * 6 + t) * 5 + s) = mI m (a + 7) ((g * 6 + t) * 5 + s) from hLQ.2.2.2.2.2.1 _ (by omega)] at cr28
            rw [bi_f (bi_eq0.mp cr28)] at h2
            exact h2 _ (Rel_ans hR (by decide))
          · -- 28 not: ¬ bi (bq (mI m (q + 7) ((g * 6 + t) * 5 + s)) h9) = 0
            refine And.intro ⟨by omega, Nat.le_of_ble_eq_true rfl, Nat.le_refl _, Nat.le_refl _⟩ (And.intro (Wdo_142 hW) ?_)
            refine C202 (m := (uI (uI m 0 0 (nI 0)) 142 0 (nI 0))) hW ?_
            refine And.intro ⟨rfl, trivial, Nat.le_refl _, Nat.le_refl _⟩ ?_
            rw [show mI m (q + 7) ((g * 6 + t) * 5 + s) = mI m (a + 7) ((g * 6 + t) * 5 + s) from hLQ.2.2.2.2.2.1 _ (by omega)] at cr28
            rw [bi_t (bi_ne0.mp cr28)] at h2
            exact h2 _ (Rel_ans hR (by decide))
        · -- 17 not: bi (iR h9 24) = 0
          refine And.intro ⟨by omega, Nat.le_of_ble_eq_true rfl, Nat.le_refl _, Nat.le_refl _⟩ (And.intro (Wdo_0 hW) ?_)
          refine C176 hW ?_
          refine And.intro ⟨rfl, trivial, Nat.le_refl _, Nat.le_refl _⟩ ?_
          refine h _ _ hW (fun Q2 h2 => ?_)
          refine ent (n := 96) z257 (by decide) rfl (by decide) (Nat.le_of_ble_eq_true rfl) (fun sc2 => ?_)
          refine And.intro (Wdo_142 hW) ?_
          refine And.intro ⟨by omega, Nat.le_of_ble_eq_true rfl, Nat.le_refl _, Nat.le_refl _⟩ (And.intro (Wdo_142 hW) ?_)
          refine C247 (m := (uI (uI m 0 0 (nI 2)) 142 0 (nI 0))) (by omega) hW (LN_u (LN_u ln4 (by decide)) (by decide)) (by omega) ?_
          refine And.intro (fun cr6 => False.elim (absurd (bi_ne0.mp cz3) (bi_eq0.mp cr6))) (fun cr6 => ?_)
          refine And.intro ⟨by omega, Nat.le_of_ble_eq_true rfl, Nat.le_refl _, Nat.le_refl _⟩ (And.intro (Wdo_142 hW) ?_)
          refine C248 (m := (uI (uI m 0 0 (nI 2)) 142 0 (nI 0))) (by omega) hW (LN_u (LN_u ln2 (by decide)) (by decide)) (by omega) ?_
          refine And.intro (fun cr10 => False.elim (absurd (bi_ne0.mp cz7) (bi_eq0.mp cr10))) (fun cr10 => ?_)
          refine And.intro ⟨by omega, Nat.le_of_ble_eq_true rfl, Nat.le_refl _, Nat.le_refl _⟩ ?_
          refine C251 (m := (uI (uI m 0 0 (nI 2)) 142 0 (nI 0))) ?_
          refine And.intro (fun cr13 => ?_) (fun cr13 => False.elim (absurd (bi_ne0.mp cz10) (bi_eq0.mp cr13)))
          refine And.intro ⟨by omega, Nat.le_of_ble_eq_true rfl, Nat.le_refl _, Nat.le_refl _⟩ ?_
          refine C252 (m := (uI (uI m 0 0 (nI 2)) 142 0 (nI 0))) ?_
          refine And.intro (fun cr20 => ?_) (fun cr20 => False.elim (absurd (bi_ne0.mp cr20) (bi_eq0.mp cz17)))
          refine And.intro ⟨by omega, Nat.le_of_ble_eq_true rfl, Nat.le_refl _, Nat.le_refl _⟩ (And.intro (Wdo_142 hW) ?_)
          refine C200 (m := (uI (uI m 0 0 (nI 2)) 142 0 (nI 0))) hW ?_
          refine And.intro ⟨rfl, trivial, Nat.le_refl _, Nat.le_refl _⟩ ?_
          exact h2 _ (Rel_ans hR (by decide))
      · -- 10 not: bi (iR v 5) = 0
        refine And.intro ⟨by omega, Nat.le_of_ble_eq_true rfl, Nat.le_refl _, Nat.le_refl _⟩ (And.intro (Wdo_0 hW) ?_)
        refine C176 hW ?_
        refine And.intro ⟨rfl, trivial, Nat.le_refl _, Nat.le_refl _⟩ ?_
        refine h _ _ hW (fun Q2 h2 => ?_)
        refine ent (n := 96) z257 (by decide) rfl (by decide) (Nat.le_of_ble_eq_true rfl) (fun sc2 => ?_)
        refine And.intro (Wdo_142 hW) ?_
        refine And.intro ⟨by omega, Nat.le_of_ble_eq_true rfl, Nat.le_refl _, Nat.le_refl _⟩ (And.intro (Wdo_142 hW) ?_)
        refine C247 (m := (uI (uI m 0 0 (nI 1)) 142 0 (nI 0))) (by omega) hW (LN_u (LN_u ln4 (by decide)) (by decide)) (by omega) ?_
        refine And.intro (fun cr6 => False.elim (absurd (bi_ne0.mp cz3) (bi_eq0.mp cr6))) (fun cr6 => ?_)
        refine And.intro ⟨by omega, Nat.le_of_ble_eq_true rfl, Nat.le_refl _, Nat.le_refl _⟩ (And.intro (Wdo_142 hW) ?_)
        refine C248 (m := (uI (uI m 0 0 (nI 1)) 142 0 (nI 0))) (by omega) hW (LN_u (LN_u ln2 (by decide)) (by decide)) (by omega) ?_
        refine And.intro (fun cr10 => False.elim (absurd (bi_ne0.mp cz7) (bi_eq0.mp cr10))) (fun cr10 => ?_)
        refine And.intro ⟨by omega, Nat.le_of_ble_eq_true rfl, Nat.le_refl _, Nat.le_refl _⟩ ?_
        refine C251 (m := (uI (uI m 0 0 (nI 1)) 142 0 (nI 0))) ?_
        refine And.intro (fun cr13 => False.elim (absurd (bi_ne0.mp cr13) (bi_eq0.mp cz10))) (fun cr13 => ?_)
        refine And.intro ⟨by omega, Nat.le_of_ble_eq_true rfl, Nat.le_refl _, Nat.le_refl _⟩ (And.intro (Wdo_142 hW) ?_)
        refine C200 (m := (uI (uI m 0 0 (nI 1)) 142 0 (nI 0))) hW ?_
        refine And.intro ⟨rfl, trivial, Nat.le_refl _, Nat.le_refl _⟩ ?_
        exact h2 _ (Rel_ans hR (by decide))
theorem P_owners {d : Nat} {m : Mm} {Q : Option Value → Mm → Prop} {z : Nat} {h9 x y : Int32} (hd : 16 ≤ d) (hR : Rel z m) (h : ∀ (r : Int32) m1, Wd m1.2.2 → (∀ Q2 : Option Value → Mm → Prop, (∀ m2, Rel z m2 → Q2 (some (.int r)) m2) → Cc d 0 0 259 [.ref 142, .int x, .int y, .int h9] m1 Q2) → Q (some (.int r)) m1) : Cc d 0 0 126 [.ref 0, .int x, .int y, .int h9] m Q := by
  obtain ⟨hW, hz, hS, a, b, hA, hX⟩ := id hR
  obtain ⟨hL, hLb, hab, ha, hb⟩ := RelA_L hW hA
  obtain ⟨n2r, hn2, bn2, ln2⟩ := RL_n (s := 2) (f := 5) hX.2.2.1 (by decide) (fun _ _ h => h.2.2.2.2.2.1)
  change n2r ≤ 6 at bn2
  obtain ⟨n4r, hn4, bn4, ln4⟩ := RL_n (s := 4) (f := 6) hX.2.2.1 (by decide) (fun _ _ h => h.2.2.2.2.2.2.1)
  change n4r ≤ 6 at bn4
  obtain ⟨n8r, hn8, bn8, ln8⟩ := RL_n (s := 8) (f := 10) hX.2.2.1 (by decide) (fun _ _ h => h.2.2.2.2.2.2.2.2.2.2.1)
  change n8r ≤ 8 at bn8
  obtain ⟨n10r, hn10, bn10, ln10⟩ := RL_n (s := 10) (f := 12) hX.2.2.1 (by decide) (fun _ _ h => h.2.2.2.2.2.2.2.2.2.2.2.2.1)
  change n10r ≤ 4 at bn10
  refine ent (n := 74) z126 (by decide) rfl (by decide) (Nat.le_of_ble_eq_true rfl) (fun sc => ?_)
  refine And.intro ⟨by omega, Nat.le_of_ble_eq_true rfl, Nat.le_refl _, Nat.le_refl _⟩ (And.intro (Wdo_0 hW) ?_)
  refine C182 (by omega) hW ha hL hn2 (by omega) ?_
  refine And.intro (fun cz3 => ?_) (fun cz3 => ?_)
  · -- 3 taken: bi (iR x n2r) = 0
    refine And.intro ⟨by omega, Nat.le_of_ble_eq_true rfl, Nat.le_refl _, Nat.le_refl _⟩ (And.intro (Wdo_0 hW) ?_)
    refine C176 hW ?_
    refine And.intro ⟨rfl, trivial, Nat.le_refl _, Nat.le_refl _⟩ ?_
    refine h _ _ hW (fun Q2 h2 => ?_)
    refine ent (n := 78) z259 (by decide) rfl (by decide) (Nat.le_of_ble_eq_true rfl) (fun sc2 => ?_)
    refine And.intro (Wdo_142 hW) ?_
    refine And.intro ⟨by omega, Nat.le_of_ble_eq_true rfl, Nat.le_refl _, Nat.le_refl _⟩ (And.intro (Wdo_142 hW) ?_)
    refine C248 (m := (uI (uI m 0 0 (nI 1)) 142 0 (nI 0))) (by omega) hW (LN_u (LN_u ln2 (by decide)) (by decide)) (by omega) ?_
    refine And.intro (fun cr6 => ?_) (fun cr6 => False.elim (absurd (bi_ne0.mp cr6) (bi_eq0.mp cz3)))
    refine And.intro ⟨by omega, Nat.le_of_ble_eq_true rfl, Nat.le_refl _, Nat.le_refl _⟩ (And.intro (Wdo_142 hW) ?_)
    refine C200 (m := (uI (uI m 0 0 (nI 1)) 142 0 (nI 0))) hW ?_
    refine And.intro ⟨rfl, trivial, Nat.le_refl _, Nat.le_refl _⟩ ?_
    exact h2 _ (Rel_ans hR (by decide))
  · -- 3 not: ¬ bi (iR x n2r) = 0
    refine And.intro ⟨by omega, Nat.le_of_ble_eq_true rfl, Nat.le_refl _, Nat.le_refl _⟩ ?_
    refine C183 ?_
    refine And.intro (fun cz6 => ?_) (fun cz6 => ?_)
    · -- 6 taken: ¬ bi (iR y 5) = 0
      obtain ⟨t, ht, rfl⟩ := bi_ne0.mp cz3
      obtain ⟨s, hs, rfl⟩ := bi_ne0.mp cz6
      obtain ⟨q, hq1⟩ := RL_1 (s := 2) hX.2.2.1 (by decide) hn2 (show 0 < n2r by omega) (by omega)
      obtain ⟨hq, w, u, ha0, ha1, hq0, hq1w, hw6, hu4, hwu, hgr⟩ := RL_q hq1
      obtain ⟨h158, hqz, hN, h3, ⟨T, hI⟩, hst, hla, hLQ, hSR⟩ := hq1
      have hq6 : mI m q 6 = nI n4r := hLQ.1.2.2.2.2.2.2.1.trans hn4
      have hq5 : mI m q 5 = nI n2r := hLQ.1.2.2.2.2.2.1.trans hn2
      refine And.intro ⟨by omega, Nat.le_of_ble_eq_true rfl, Nat.le_refl _, Nat.le_refl _⟩ ?_
      refine C184 ?_
      refine And.intro (fun cz13 => ?_) (fun cz13 => ?_)
      · -- 13 taken: ¬ bi (iR h9 24) = 0
        refine And.intro (Wdo_0 hW) (Exists.intro _ (And.intro ha ?_))
        refine And.intro ⟨by omega, Nat.le_of_ble_eq_true rfl, Nat.le_refl _, Nat.le_refl _⟩ (And.intro (LWo_0 hL) ?_)
        refine C32 (t := t) (s := s) (n := n4r) (by omega) hL (by omega) (by omega) hn4 (by omega) ?_
        refine And.intro ⟨by omega, Nat.le_of_ble_eq_true rfl, Nat.le_refl _, Nat.le_refl _⟩ (And.intro (Wdo_0 hW) ?_)
        refine C177 hW ?_
        refine And.intro ⟨rfl, trivial, Nat.le_refl _, Nat.le_refl _⟩ ?_
        refine h _ _ hW (fun Q2 h2 => ?_)
        refine ent (n := 78) z259 (by decide) rfl (by decide) (Nat.le_of_ble_eq_true rfl) (fun sc2 => ?_)
        refine And.intro (Wdo_142 hW) ?_
        refine And.intro ⟨by omega, Nat.le_of_ble_eq_true rfl, Nat.le_refl _, Nat.le_refl _⟩ (And.intro (Wdo_142 hW) ?_)
        refine C248 (m := (uI (uI m 0 0 (nI 0)) 142 0 (nI 0))) (by omega) hW (LN_u (LN_u ln2 (by decide)) (by decide)) (by omega) ?_
        refine And.intro (fun cr6 => False.elim (absurd (bi_ne0.mp cz3) (bi_eq0.mp cr6))) (fun cr6 => ?_)
        refine And.intro ⟨by omega, Nat.le_of_ble_eq_true rfl, Nat.le_refl _, Nat.le_refl _⟩ ?_
        refine C251 (m := (uI (uI m 0 0 (nI 0)) 142 0 (nI 0))) ?_
        refine And.intro (fun cr9 => ?_) (fun cr9 => False.elim (absurd (bi_ne0.mp cz6) (bi_eq0.mp cr9)))
        refine And.intro ⟨by omega, Nat.le_of_ble_eq_true rfl, Nat.le_refl _, Nat.le_refl _⟩ ?_
        refine C252 (m := (uI (uI m 0 0 (nI 0)) 142 0 (nI 0))) ?_
        refine And.intro (fun cr16 => False.elim (absurd (bi_ne0.mp cz13) (bi_eq0.mp cr16))) (fun cr16 => ?_)
        refine And.intro ⟨by omega, Nat.le_of_ble_eq_true rfl, Nat.le_refl _, Nat.le_refl _⟩ (And.intro (Wdo_142 hW) ?_)
        refine C258 (m := (uI (uI m 0 0 (nI 0)) 142 0 (nI 0))) (t := t) (s := s) (by omega) hW hN h158 hq (show mI (uI (uI m 0 0 (nI 0)) 142 0 (nI 0)) q 6 = nI n4r by rw [uI_ne (by omega), uI_ne (by omega)]; exact hq6) (by omega) (show mI (uI (uI m 0 0 (nI 0)) 142 0 (nI 0)) q 5 = nI n2r by rw [uI_ne (by omega), uI_ne (by omega)]; exact hq5) (by omega) (by omega) (by omega) ?_
        rw [uI_ne (m := (uI m 0 0 (nI 0))) (a := 142) (b := (q + 7)) (by omega)]
        rw [uI_ne (m := m) (a := 0) (b := (q + 7)) (by omega)]
        refine And.intro ⟨by omega, Nat.le_of_ble_eq_true rfl, Nat.le_refl _, Nat.le_refl _⟩ (And.intro (Wdo_142 hW) ?_)
        refine C202 (m := (uI (uI m 0 0 (nI 0)) 142 0 (nI 0))) hW ?_
        refine And.intro ⟨rfl, trivial, Nat.le_refl _, Nat.le_refl _⟩ ?_
        rw [← hoF_c (f := mI m (q + 7)) (g := mI m (a + 7)) (t := t) (s := s) (n := n4r) (h := h9) hLQ.2.2.2.2.2.1 (by omega) (by omega) (by omega)] at h2
        exact h2 _ (Rel_ans hR (by decide))
      · -- 13 not: bi (iR h9 24) = 0
        refine And.intro ⟨by omega, Nat.le_of_ble_eq_true rfl, Nat.le_refl _, Nat.le_refl _⟩ (And.intro (Wdo_0 hW) ?_)
        refine C176 hW ?_
        refine And.intro ⟨rfl, trivial, Nat.le_refl _, Nat.le_refl _⟩ ?_
        refine h _ _ hW (fun Q2 h2 => ?_)
        refine ent (n := 78) z259 (by decide) rfl (by decide) (Nat.le_of_ble_eq_true rfl) (fun sc2 => ?_)
        refine And.intro (Wdo_142 hW) ?_
        refine And.intro ⟨by omega, Nat.le_of_ble_eq_true rfl, Nat.le_refl _, Nat.le_refl _⟩ (And.intro (Wdo_142 hW) ?_)
        refine C248 (m := (uI (uI m 0 0 (nI 2)) 142 0 (nI 0))) (by omega) hW (LN_u (LN_u ln2 (by decide)) (by decide)) (by omega) ?_
        refine And.intro (fun cr6 => False.elim (absurd (bi_ne0.mp cz3) (bi_eq0.mp cr6))) (fun cr6 => ?_)
        refine And.intro ⟨by omega, Nat.le_of_ble_eq_true rfl, Nat.le_refl _, Nat.le_refl _⟩ ?_
        refine C251 (m := (uI (uI m 0 0 (nI 2)) 142 0 (nI 0))) ?_
        refine And.intro (fun cr9 => ?_) (fun cr9 => False.elim (absurd (bi_ne0.mp cz6) (bi_eq0.mp cr9)))
        refine And.intro ⟨by omega, Nat.le_of_ble_eq_true rfl, Nat.le_refl _, Nat.le_refl _⟩ ?_
        refine C252 (m := (uI (uI m 0 0 (nI 2)) 142 0 (nI 0))) ?_
        refine And.intro (fun cr16 => ?_) (fun cr16 => False.elim (absurd (bi_ne0.mp cr16) (bi_eq0.mp cz13)))
        refine And.intro ⟨by omega, Nat.le_of_ble_eq_true rfl, Nat.le_refl _, Nat.le_refl _⟩ (And.intro (Wdo_142 hW) ?_)
        refine C200 (m := (uI (uI m 0 0 (nI 2)) 142 0 (nI 0))) hW ?_
        refine And.intro ⟨rfl, trivial, Nat.le_refl _, Nat.le_refl _⟩ ?_
        exact h2 _ (Rel_ans hR (by decide))
    · -- 6 not: bi (iR y 5) = 0
      refine And.intro ⟨by omega, Nat.le_of_ble_eq_true rfl, Nat.le_refl _, Nat.le_refl _⟩ (And.intro (Wdo_0 hW) ?_)
      refine C176 hW ?_
      refine And.intro ⟨rfl, trivial, Nat.le_refl _, Nat.le_refl _⟩ ?_
      refine h _ _ hW (fun Q2 h2 => ?_)
      refine ent (n := 78) z259 (by decide) rfl (by decide) (Nat.le_of_ble_eq_true rfl) (fun sc2 => ?_)
      refine And.intro (Wdo_142 hW) ?_
      refine And.intro ⟨by omega, Nat.le_of_ble_eq_true rfl, Nat.le_refl _, Nat.le_refl _⟩ (And.intro (Wdo_142 hW) ?_)
      refine C248 (m := (uI (uI m 0 0 (nI 1)) 142 0 (nI 0))) (by omega) hW (LN_u (LN_u ln2 (by decide)) (by decide)) (by omega) ?_
      refine And.intro (fun cr6 => False.elim (absurd (bi_ne0.mp cz3) (bi_eq0.mp cr6))) (fun cr6 => ?_)
      refine And.intro ⟨by omega, Nat.le_of_ble_eq_true rfl, Nat.le_refl _, Nat.le_refl _⟩ ?_
      refine C251 (m := (uI (uI m 0 0 (nI 1)) 142 0 (nI 0))) ?_
      refine And.intro (fun cr9 => False.elim (absurd (bi_ne0.mp cr9) (bi_eq0.mp cz6))) (fun cr9 => ?_)
      refine And.intro ⟨by omega, Nat.le_of_ble_eq_true rfl, Nat.le_refl _, Nat.le_refl _⟩ (And.intro (Wdo_142 hW) ?_)
      refine C200 (m := (uI (uI m 0 0 (nI 1)) 142 0 (nI 0))) hW ?_
      refine And.intro ⟨rfl, trivial, Nat.le_refl _, Nat.le_refl _⟩ ?_
      exact h2 _ (Rel_ans hR (by decide))
theorem P_in {d : Nat} {m : Mm} {Q : Option Value → Mm → Prop} {z : Nat} {h9 x : Int32} (hd : 16 ≤ d) (hR : Rel z m) (h : ∀ (r : Int32) m1, Wd m1.2.2 → (∀ Q2 : Option Value → Mm → Prop, (∀ m2, Rel z m2 → Q2 (some (.int r)) m2) → Cc d 0 0 269 [.ref 142, .int x, .int h9] m1 Q2) → Q (some (.int r)) m1) : Cc d 0 0 133 [.ref 0, .int x, .int h9] m Q := by
  obtain ⟨hW, hz, hS, a, b, hA, hX⟩ := id hR
  obtain ⟨hL, hLb, hab, ha, hb⟩ := RelA_L hW hA
  obtain ⟨n2r, hn2, bn2, ln2⟩ := RL_n (s := 2) (f := 5) hX.2.2.1 (by decide) (fun _ _ h => h.2.2.2.2.2.1)
  change n2r ≤ 6 at bn2
  obtain ⟨n4r, hn4, bn4, ln4⟩ := RL_n (s := 4) (f := 6) hX.2.2.1 (by decide) (fun _ _ h => h.2.2.2.2.2.2.1)
  change n4r ≤ 6 at bn4
  obtain ⟨n8r, hn8, bn8, ln8⟩ := RL_n (s := 8) (f := 10) hX.2.2.1 (by decide) (fun _ _ h => h.2.2.2.2.2.2.2.2.2.2.1)
  change n8r ≤ 8 at bn8
  obtain ⟨n10r, hn10, bn10, ln10⟩ := RL_n (s := 10) (f := 12) hX.2.2.1 (by decide) (fun _ _ h => h.2.2.2.2.2.2.2.2.2.2.2.2.1)
  change n10r ≤ 4 at bn10
  refine ent (n := 72) z133 (by decide) rfl (by decide) (Nat.le_of_ble_eq_true rfl) (fun sc => ?_)
  refine And.intro ⟨by omega, Nat.le_of_ble_eq_true rfl, Nat.le_refl _, Nat.le_refl _⟩ (And.intro (Wdo_0 hW) ?_)
  refine C181 (by omega) hW ha hL hn4 (by omega) ?_
  refine And.intro (fun cz3 => ?_) (fun cz3 => ?_)
  · -- 3 taken: ¬ bi (iR x n4r) = 0
    obtain ⟨g, hg, rfl⟩ := bi_ne0.mp cz3
    obtain ⟨q, hq1⟩ := RL_1 (s := 4) hX.2.2.1 (by decide) hn4 (show 0 < n4r by omega) (by omega)
    obtain ⟨hq, w, u, ha0, ha1, hq0, hq1w, hw6, hu4, hwu, hgr⟩ := RL_q hq1
    obtain ⟨h158, hqz, hN, h3, ⟨T, hI⟩, hst, hla, hLQ, hSR⟩ := hq1
    have hq6 : mI m q 6 = nI n4r := hLQ.1.2.2.2.2.2.2.1.trans hn4
    have hq5 : mI m q 5 = nI n2r := hLQ.1.2.2.2.2.2.1.trans hn2
    refine And.intro ⟨by omega, Nat.le_of_ble_eq_true rfl, Nat.le_refl _, Nat.le_refl _⟩ ?_
    refine C184 ?_
    refine And.intro (fun cz10 => ?_) (fun cz10 => ?_)
    · -- 10 taken: ¬ bi (iR h9 24) = 0
      refine And.intro (Wdo_0 hW) (Exists.intro _ (And.intro ha ?_))
      refine And.intro (Wdo_0 hW) (Exists.intro _ (And.intro (Wdr_0_4 hW) ?_))
      refine And.intro ⟨by omega, Nat.le_of_ble_eq_true rfl, Nat.le_refl _, Nat.le_refl _⟩ (And.intro (LWo_0 hL) ?_)
      refine C35 (g := g) (b := 20) (by omega) hL (Wd_S hW) (by omega) ?_
      refine And.intro ⟨by omega, Nat.le_of_ble_eq_true rfl, Nat.le_refl _, Nat.le_refl _⟩ ?_
      refine C180 ?_
      refine And.intro ⟨by omega, Nat.le_of_ble_eq_true rfl, Nat.le_refl _, Nat.le_refl _⟩ (And.intro (Wdo_0 hW) ?_)
      refine C177 hW ?_
      refine And.intro ⟨rfl, trivial, Nat.le_refl _, Nat.le_refl _⟩ ?_
      refine h _ _ hW (fun Q2 h2 => ?_)
      refine ent (n := 78) z269 (by decide) rfl (by decide) (Nat.le_of_ble_eq_true rfl) (fun sc2 => ?_)
      refine And.intro (Wdo_142 hW) ?_
      refine And.intro ⟨by omega, Nat.le_of_ble_eq_true rfl, Nat.le_refl _, Nat.le_refl _⟩ (And.intro (Wdo_142 hW) ?_)
      refine C247 (m := (uI (uI m 0 0 (nI 0)) 142 0 (nI 0))) (by omega) hW (LN_u (LN_u ln4 (by decide)) (by decide)) (by omega) ?_
      refine And.intro (fun cr6 => ?_) (fun cr6 => False.elim (absurd (bi_ne0.mp cz3) (bi_eq0.mp cr6)))
      refine And.intro ⟨by omega, Nat.le_of_ble_eq_true rfl, Nat.le_refl _, Nat.le_refl _⟩ ?_
      refine C252 (m := (uI (uI m 0 0 (nI 0)) 142 0 (nI 0))) ?_
      refine And.intro (fun cr13 => False.elim (absurd (bi_ne0.mp cz10) (bi_eq0.mp cr13))) (fun cr13 => ?_)
      refine And.intro ⟨by omega, Nat.le_of_ble_eq_true rfl, Nat.le_refl _, Nat.le_refl _⟩ (And.intro (Wdo_142 hW) ?_)
      refine C254 (m := (uI (uI m 0 0 (nI 0)) 142 0 (nI 0))) (g := g) hW hN hq (by omega) (by omega) ?_
      rw [uI_ne (m := (uI m 0 0 (nI 0))) (a := 142) (b := (q + 2)) (by omega)]
      rw [uI_ne (m := (uI m 0 0 (nI 0))) (a := 142) (b := 145) (by omega)]
      rw [uI_ne (m := (uI m 0 0 (nI 0))) (a := 142) (b := (q + 5)) (by omega)]
      rw [uI_ne (m := (uI m 0 0 (nI 0))) (a := 142) (b := (q + 6)) (by omega)]
      rw [uI_ne (m := m) (a := 0) (b := (q + 2)) (by omega)]
      rw [uI_ne (m := m) (a := 0) (b := 145) (by omega)]
      rw [uI_ne (m := m) (a := 0) (b := (q + 5)) (by omega)]
      rw [uI_ne (m := m) (a := 0) (b := (q + 6)) (by omega)]
      refine And.intro (fun cr19 => ?_) (fun cr19 => ?_)
      · -- 19 taken: bi (¬ (mI m (q + 2) g = nI 3 ∨ bq (mI m 145 0) (nI g)) ∧ mI m (q + 5) g ≤ h9 ∧ h9 < mI m (q + 6) g) = 0
        refine And.intro ⟨by omega, Nat.le_of_ble_eq_true rfl, Nat.le_refl _, Nat.le_refl _⟩ (And.intro (Wdo_142 hW) ?_)
        refine C202 (m := (uI (uI m 0 0 (nI 0)) 142 0 (nI 0))) hW ?_
        refine And.intro ⟨rfl, trivial, Nat.le_refl _, Nat.le_refl _⟩ ?_
        have v3 := hLQ.2.2.2.1 g (show g < nv (mI m (a + 1) 4) by rw [hn4, nv_nI (by omega)]; exact hg)
        rw [show mI m (q + 2) g = mI m (a + 3) g from v3.1, show mI m (q + 5) g = mI m (a + 5) g from v3.2.2.1, show mI m (q + 6) g = mI m (a + 6) g from v3.2.2.2, show mI m 145 0 = mI m 20 1 from hX.2.1.1] at cr19
        rw [bi_f (bi_eq0.mp cr19)] at h2
        exact h2 _ (Rel_ans hR (by decide))
      · -- 19 not: ¬ bi (¬ (mI m (q + 2) g = nI 3 ∨ bq (mI m 145 0) (nI g)) ∧ mI m (q + 5) g ≤ h9 ∧ h9 < mI m (q + 6) g) = 0
        refine And.intro ⟨by omega, Nat.le_of_ble_eq_true rfl, Nat.le_refl _, Nat.le_refl _⟩ (And.intro (Wdo_142 hW) ?_)
        refine C202 (m := (uI (uI m 0 0 (nI 0)) 142 0 (nI 0))) hW ?_
        refine And.intro ⟨rfl, trivial, Nat.le_refl _, Nat.le_refl _⟩ ?_
        have v3 := hLQ.2.2.2.1 g (show g < nv (mI m (a + 1) 4) by rw [hn4, nv_nI (by omega)]; exact hg)
        rw [show mI m (q + 2) g = mI m (a + 3) g from v3.1, show mI m (q + 5) g = mI m (a + 5) g from v3.2.2.1, show mI m (q + 6) g = mI m (a + 6) g from v3.2.2.2, show mI m 145 0 = mI m 20 1 from hX.2.1.1] at cr19
        rw [bi_t (bi_ne0.mp cr19)] at h2
        exact h2 _ (Rel_ans hR (by decide))
    · -- 10 not: bi (iR h9 24) = 0
      refine And.intro ⟨by omega, Nat.le_of_ble_eq_true rfl, Nat.le_refl _, Nat.le_refl _⟩ (And.intro (Wdo_0 hW) ?_)
      refine C176 hW ?_
      refine And.intro ⟨rfl, trivial, Nat.le_refl _, Nat.le_refl _⟩ ?_
      refine h _ _ hW (fun Q2 h2 => ?_)
      refine ent (n := 78) z269 (by decide) rfl (by decide) (Nat.le_of_ble_eq_true rfl) (fun sc2 => ?_)
      refine And.intro (Wdo_142 hW) ?_
      refine And.intro ⟨by omega, Nat.le_of_ble_eq_true rfl, Nat.le_refl _, Nat.le_refl _⟩ (And.intro (Wdo_142 hW) ?_)
      refine C247 (m := (uI (uI m 0 0 (nI 2)) 142 0 (nI 0))) (by omega) hW (LN_u (LN_u ln4 (by decide)) (by decide)) (by omega) ?_
      refine And.intro (fun cr6 => ?_) (fun cr6 => False.elim (absurd (bi_ne0.mp cz3) (bi_eq0.mp cr6)))
      refine And.intro ⟨by omega, Nat.le_of_ble_eq_true rfl, Nat.le_refl _, Nat.le_refl _⟩ ?_
      refine C252 (m := (uI (uI m 0 0 (nI 2)) 142 0 (nI 0))) ?_
      refine And.intro (fun cr13 => ?_) (fun cr13 => False.elim (absurd (bi_ne0.mp cr13) (bi_eq0.mp cz10)))
      refine And.intro ⟨by omega, Nat.le_of_ble_eq_true rfl, Nat.le_refl _, Nat.le_refl _⟩ (And.intro (Wdo_142 hW) ?_)
      refine C200 (m := (uI (uI m 0 0 (nI 2)) 142 0 (nI 0))) hW ?_
      refine And.intro ⟨rfl, trivial, Nat.le_refl _, Nat.le_refl _⟩ ?_
      exact h2 _ (Rel_ans hR (by decide))
  · -- 3 not: bi (iR x n4r) = 0
    refine And.intro ⟨by omega, Nat.le_of_ble_eq_true rfl, Nat.le_refl _, Nat.le_refl _⟩ (And.intro (Wdo_0 hW) ?_)
    refine C176 hW ?_
    refine And.intro ⟨rfl, trivial, Nat.le_refl _, Nat.le_refl _⟩ ?_
    refine h _ _ hW (fun Q2 h2 => ?_)
    refine ent (n := 78) z269 (by decide) rfl (by decide) (Nat.le_of_ble_eq_true rfl) (fun sc2 => ?_)
    refine And.intro (Wdo_142 hW) ?_
    refine And.intro ⟨by omega, Nat.le_of_ble_eq_true rfl, Nat.le_refl _, Nat.le_refl _⟩ (And.intro (Wdo_142 hW) ?_)
    refine C247 (m := (uI (uI m 0 0 (nI 1)) 142 0 (nI 0))) (by omega) hW (LN_u (LN_u ln4 (by decide)) (by decide)) (by omega) ?_
    refine And.intro (fun cr6 => False.elim (absurd (bi_ne0.mp cr6) (bi_eq0.mp cz3))) (fun cr6 => ?_)
    refine And.intro ⟨by omega, Nat.le_of_ble_eq_true rfl, Nat.le_refl _, Nat.le_refl _⟩ (And.intro (Wdo_142 hW) ?_)
    refine C200 (m := (uI (uI m 0 0 (nI 1)) 142 0 (nI 0))) hW ?_
    refine And.intro ⟨rfl, trivial, Nat.le_refl _, Nat.le_refl _⟩ ?_
    exact h2 _ (Rel_ans hR (by decide))
