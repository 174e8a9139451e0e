theorem D92r {d : Nat} {m : Mm} {Q : Option Value → Mm → Prop} {a ns : Nat} {D : Nat → Nat → Int32} (hW : Wd m.2.2) (hL : LW m.2.2 a) (ha : a + 19 ≤ 136) (hd : 9 ≤ d) (hns : mI m (a + 1) 11 = nI ns) (hns6 : ns ≤ 6) (hE : D 0 4 = nI 0 ∨ D 0 4 = nI 1 ∧ NI 720 D (rc (mI m (a + 12)) (mI m (a + 13)) 6 (2 ^ ns - 1) (mI m a 3))) (hQ : ∀ D1, NI 720 D1 (rc (mI m (a + 12)) (mI m (a + 13)) 6 (2 ^ ns - 1) (mI m a 3)) → D1 0 4 = nI 1 → Q none (bput m 139 2 D1)) : Cc d 0 0 92 [.ref 139, .ref a] (bput m 139 2 D) Q :=
  D92 hW hL ha hd hns hns6 (fun h => (hE.elim (fun z => absurd z h) (fun z => hQ D z.2 z.1))) hQ
theorem lo_k {f : Nat → Int32} {i : Nat} {lo : Int32} (h : ∀ i1, i1 < i → lo ≤ f i1) (hn : lo ≤ f i) : ∀ i1, i1 < i + 1 → lo ≤ f i1 := fun i1 h9 => by
  rcases Nat.lt_or_ge i1 i with q9 | q9
  · exact h i1 q9
  · rw [show i1 = i by omega]; exact hn
theorem lo_n {f : Nat → Int32} {i : Nat} {lo : Int32} (h : ∀ i1, i1 < i → lo ≤ f i1) (hn : f i ≤ lo) : ∀ i1, i1 < i + 1 → f i ≤ f i1 := fun i1 h9 => by
  rcases Nat.lt_or_ge i1 i with q9 | q9
  · exact Int32.le_trans hn (h i1 q9)
  · rw [show i1 = i by omega]; exact Int32.le_refl _
theorem hi_k {f : Nat → Int32} {i : Nat} {hi : Int32} (h : ∀ i1, i1 < i → f i1 ≤ hi) (hn : f i ≤ hi) : ∀ i1, i1 < i + 1 → f i1 ≤ hi := fun i1 h9 => by
  rcases Nat.lt_or_ge i1 i with q9 | q9
  · exact h i1 q9
  · rw [show i1 = i by omega]; exact hn
theorem hi_n {f : Nat → Int32} {i : Nat} {hi : Int32} (h : ∀ i1, i1 < i → f i1 ≤ hi) (hn : hi ≤ f i) : ∀ i1, i1 < i + 1 → f i1 ≤ f i := fun i1 h9 => by
  rcases Nat.lt_or_ge i1 i with q9 | q9
  · exact Int32.le_trans (h i1 q9) hn
  · rw [show i1 = i by omega]; exact Int32.le_refl _
theorem lend {sc : Nat × (Nat → Int32)} {d : Nat} {m : Mm} {Q : Option Value → Mm → Prop} {kk : Nat} {x : Int32} (hd : 3 ≤ d) (hW : Wd m.2.2) (hkk : mI m 142 32 = nI kk) (hk720 : kk ≤ 720) (h0 : x = 0 → Q (some (.int (nI kk))) (uI (uI m 142 1 (nI 0)) 142 2 (-nI 1))) (h1x : ¬ x = 0 → x = nI 1 → ∀ lo, (∃ i1, i1 < kk ∧ mI m 156 i1 = lo) → (∀ i1, i1 < kk → lo ≤ mI m 156 i1) → Q (some (.int lo)) (uI (uI m 142 1 (nI 0)) 142 2 (-nI 1))) (h2x : ¬ x = 0 → ¬ x = nI 1 → ∀ hi, (∃ i1, i1 < kk ∧ mI m 156 i1 = hi) → (∀ i1, i1 < kk → mI m 156 i1 ≤ hi) → Q (some (.int hi)) (uI (uI m 142 1 (nI 0)) 142 2 (-nI 1)))  : ∀ (j i : Nat) (lo hi : Int32), i ≤ kk → kk + 1 ≤ i + j → (((∃ i1, i1 < i ∧ mI m 156 i1 = lo) ∧ ∀ i1, i1 < i → lo ≤ mI m 156 i1) ∧ ((∃ i1, i1 < i ∧ mI m 156 i1 = hi) ∧ ∀ i1, i1 < i → mI m 156 i1 ≤ hi)) → Jj sc d 0 0 (mth 315) (pg P315 29).1 [some (.ref 142), some (.int x), some (.int lo), some (.int hi), some (.int (nI i))] [] m 0 0 Q := by
  intro j
  induction j with
  | zero => intro i lo hi h1 h2 hall; omega
  | succ j ih =>
    intro i lo hi h1 h2 hall
    refine J_w z315 (i := 29) (by decide) 170 ?_
    refine And.intro (Wdo_142 hW) ?_
    rw [hkk]
    refine And.intro (fun cz32 => ?_) (fun cz32 => ?_)
    · -- 32 taken: nI kk ≤ nI i
      have kz32 : kk ≤ i := kle (a := kk) (b := i) rfl rfl (by omega) (by omega) cz32
      refine And.intro (fun cz63 => ?_) (fun cz63 => ?_)
      · -- 63 taken: ¬ x = 0
        refine And.intro (fun cz69 => ?_) (fun cz69 => ?_)
        · -- 69 taken: ¬ x = nI 1
          refine And.intro ⟨by omega, Nat.le_of_ble_eq_true rfl, Nat.le_refl _, Nat.le_refl _⟩ (And.intro (Wdo_142 hW) ?_)
          refine C202 hW ?_
          refine And.intro ⟨rfl, trivial, Nat.le_refl _, Nat.le_refl _⟩ ?_
          have ez9 : i = kk := by omega
          subst ez9
          exact h2x cz63 cz69 hi hall.2.1 hall.2.2
        · -- 69 not: x = nI 1
          refine And.intro ⟨by omega, Nat.le_of_ble_eq_true rfl, Nat.le_refl _, Nat.le_refl _⟩ (And.intro (Wdo_142 hW) ?_)
          refine C202 hW ?_
          refine And.intro ⟨rfl, trivial, Nat.le_refl _, Nat.le_refl _⟩ ?_
          have ez9 : i = kk := by omega
          subst ez9
          exact h1x cz63 cz69 lo hall.1.1 hall.1.2
      · -- 63 not: x = 0
        refine And.intro (Wdo_142 hW) ?_
        rw [hkk]
        refine And.intro ⟨by omega, Nat.le_of_ble_eq_true rfl, Nat.le_refl _, Nat.le_refl _⟩ (And.intro (Wdo_142 hW) ?_)
        refine C202 hW ?_
        refine And.intro ⟨rfl, trivial, Nat.le_refl _, Nat.le_refl _⟩ ?_
        have ez9 : i = kk := by omega
        subst ez9
        exact h0 cz63
    · -- 32 not: ¬ nI kk ≤ nI i
      have kz32 : i < kk := knle (a := kk) (b := i) rfl rfl (by omega) (by omega) cz32
      refine And.intro (Wdo_142 hW) (Exists.intro _ (And.intro (Wdr_142_31 hW) ?_))
      refine And.intro (Wdi_156 hW (vi rfl (by omega))) ?_
      rw [nI_clamp (show i < 2 ^ 31 by omega)]
      refine And.intro (fun cz38 => ?_) (fun cz38 => ?_)
      · -- 38 taken: lo ≤ mI m 156 i
        refine And.intro (Wdo_142 hW) (Exists.intro _ (And.intro (Wdr_142_31 hW) ?_))
        refine And.intro (Wdi_156 hW (vi rfl (by omega))) ?_
        rw [nI_clamp (show i < 2 ^ 31 by omega)]
        refine And.intro (fun cz51 => ?_) (fun cz51 => ?_)
        · -- 51 taken: mI m 156 i ≤ hi
          show Jj sc d 0 0 (mth 315) (pg P315 29).1 [some (.ref 142), some (.int x), some (.int lo), some (.int hi), some (.int (nI i + nI 1))] [] m 0 0 Q
          rw [show nI i + nI 1 = nI (i + 1) from by simp only [nI_add, pk_mul]]
          exact ih (i + 1) _ _ (by omega) (by omega) ⟨⟨⟨hall.1.1.choose, by have := hall.1.1.choose_spec.1; omega, hall.1.1.choose_spec.2⟩, lo_k hall.1.2 cz38⟩, ⟨⟨hall.2.1.choose, by have := hall.2.1.choose_spec.1; omega, hall.2.1.choose_spec.2⟩, hi_k hall.2.2 cz51⟩⟩
        · -- 51 not: ¬ mI m 156 i ≤ hi
          refine And.intro (Wdo_142 hW) (Exists.intro _ (And.intro (Wdr_142_31 hW) ?_))
          refine And.intro (Wdi_156 hW (vi rfl (by omega))) ?_
          rw [nI_clamp (show i < 2 ^ 31 by omega)]
          show Jj sc d 0 0 (mth 315) (pg P315 29).1 [some (.ref 142), some (.int x), some (.int lo), some (.int (mI m 156 i)), some (.int (nI i + nI 1))] [] m 0 0 Q
          rw [show nI i + nI 1 = nI (i + 1) from by simp only [nI_add, pk_mul]]
          exact ih (i + 1) _ _ (by omega) (by omega) ⟨⟨⟨hall.1.1.choose, by have := hall.1.1.choose_spec.1; omega, hall.1.1.choose_spec.2⟩, lo_k hall.1.2 cz38⟩, ⟨⟨i, by omega, rfl⟩, hi_n hall.2.2 (Int32.le_of_lt (Int32.not_le.mp cz51))⟩⟩
      · -- 38 not: ¬ lo ≤ mI m 156 i
        refine And.intro (Wdo_142 hW) (Exists.intro _ (And.intro (Wdr_142_31 hW) ?_))
        refine And.intro (Wdi_156 hW (vi rfl (by omega))) ?_
        rw [nI_clamp (show i < 2 ^ 31 by omega)]
        refine And.intro (Wdo_142 hW) (Exists.intro _ (And.intro (Wdr_142_31 hW) ?_))
        refine And.intro (Wdi_156 hW (vi rfl (by omega))) ?_
        rw [nI_clamp (show i < 2 ^ 31 by omega)]
        refine And.intro (fun cz51 => ?_) (fun cz51 => ?_)
        · -- 51 taken: mI m 156 i ≤ hi
          show Jj sc d 0 0 (mth 315) (pg P315 29).1 [some (.ref 142), some (.int x), some (.int (mI m 156 i)), some (.int hi), some (.int (nI i + nI 1))] [] m 0 0 Q
          rw [show nI i + nI 1 = nI (i + 1) from by simp only [nI_add, pk_mul]]
          exact ih (i + 1) _ _ (by omega) (by omega) ⟨⟨⟨i, by omega, rfl⟩, lo_n hall.1.2 (Int32.le_of_lt (Int32.not_le.mp cz38))⟩, ⟨⟨hall.2.1.choose, by have := hall.2.1.choose_spec.1; omega, hall.2.1.choose_spec.2⟩, hi_k hall.2.2 cz51⟩⟩
        · -- 51 not: ¬ mI m 156 i ≤ hi
          refine And.intro (Wdo_142 hW) (Exists.intro _ (And.intro (Wdr_142_31 hW) ?_))
          refine And.intro (Wdi_156 hW (vi rfl (by omega))) ?_
          rw [nI_clamp (show i < 2 ^ 31 by omega)]
          show Jj sc d 0 0 (mth 315) (pg P315 29).1 [some (.ref 142), some (.int x), some (.int (mI m 156 i)), some (.int (mI m 156 i)), some (.int (nI i + nI 1))] [] m 0 0 Q
          rw [show nI i + nI 1 = nI (i + 1) from by simp only [nI_add, pk_mul]]
          exact ih (i + 1) _ _ (by omega) (by omega) ⟨⟨⟨i, by omega, rfl⟩, lo_n hall.1.2 (Int32.le_of_lt (Int32.not_le.mp cz38))⟩, ⟨⟨i, by omega, rfl⟩, hi_n hall.2.2 (Int32.le_of_lt (Int32.not_le.mp cz51))⟩⟩
theorem pc_t : ∀ u, u < 64 → (∀ p, p < 6 → ¬ tbit u p) → u = 0 := by decide +kernel
theorem rc_ne {so am : Nat → Int32} : ∀ r u l, u < 64 → pcl u 6 ≤ r → ∃ v, rc so am r u l v
  | 0, u, l, _, _ => ⟨l, rfl⟩
  | r + 1, u, l, hu, hp => by
    by_cases h : u = 0
    · exact ⟨l, Or.inl ⟨h, rfl⟩⟩
    · by_cases hx : ∃ p, p < 6 ∧ tbit u p
      · obtain ⟨p, h1, h2⟩ := hx
        have hc := clb_p u hu p h1 h2
        obtain ⟨v, hv⟩ := rc_ne (so := so) (am := am) r (clb u p) (caF so am p l) hc.1 (by omega)
        exact ⟨v, Or.inr ⟨h, p, h1, h2, hv⟩⟩
      · exact absurd (pc_t u hu (fun p h1 h2 => hx ⟨p, h1, h2⟩)) h
theorem P_ends {d : Nat} {m : Mm} {Q : Option Value → Mm → Prop} {z : Nat} {x : Int32} (hd : 16 ≤ d) (hR : Rel z m) (h : ∀ (r : Int32) m1, Wd m1.2.2 → (∀ Q2 : Option Value → Mm → Prop, (∀ m2, Rel z m2 → Q2 (some (.int r)) m2) → Cc d 0 0 315 [.ref 142, .int x] m1 Q2) → Q (some (.int r)) m1) : Cc d 0 0 155 [.ref 0, .int x] m Q := by
  obtain ⟨hW, hz, hS, a, b, hA, hX⟩ := id hR
  obtain ⟨hL, hLb, hab, ha, hb⟩ := RelA_L hW hA
  obtain ⟨n2r, hn2, bn2, ln2⟩ := RL_n (s := 2) (f := 5) hX.2.2.1 (by decide) (fun _ _ h => h.2.2.2.2.2.1)
  change n2r ≤ 6 at bn2
  obtain ⟨n4r, hn4, bn4, ln4⟩ := RL_n (s := 4) (f := 6) hX.2.2.1 (by decide) (fun _ _ h => h.2.2.2.2.2.2.1)
  change n4r ≤ 6 at bn4
  obtain ⟨n8r, hn8, bn8, ln8⟩ := RL_n (s := 8) (f := 10) hX.2.2.1 (by decide) (fun _ _ h => h.2.2.2.2.2.2.2.2.2.2.1)
  change n8r ≤ 8 at bn8
  obtain ⟨n10r, hn10, bn10, ln10⟩ := RL_n (s := 10) (f := 12) hX.2.2.1 (by decide) (fun _ _ h => h.2.2.2.2.2.2.2.2.2.2.2.2.1)
  change n10r ≤ 4 at bn10
  obtain ⟨ns, hns, bns, lns⟩ := RL_n (s := 11) (f := 13) hX.2.2.1 (by decide) (fun _ _ h => h.2.2.2.2.2.2.2.2.2.2.2.2.2.1)
  change ns ≤ 6 at bns
  rcases RL_st hX.2.2.1 with ⟨hL0, hst0⟩ | ⟨q, hq1, hst0⟩
  · skip
    refine ent (n := 98) z155 (by decide) rfl (by decide) (Nat.le_of_ble_eq_true rfl) (fun sc => ?_)
    refine And.intro (Wdo_0 hW) (Exists.intro _ (And.intro ha ?_))
    refine And.intro ⟨by omega, Nat.le_of_ble_eq_true rfl, Nat.le_refl _, Nat.le_refl _⟩ (And.intro (LWo_0 hL) ?_)
    refine C21 hL ?_
    refine And.intro (fun cz3 => ?_) (fun cz3 => False.elim (absurd (bi_ne0.mp cz3) (hst0)))
    refine And.intro ⟨by omega, Nat.le_of_ble_eq_true rfl, Nat.le_refl _, Nat.le_refl _⟩ (And.intro (Wdo_0 hW) ?_)
    refine C176 hW ?_
    refine And.intro ⟨rfl, trivial, Nat.le_refl _, Nat.le_refl _⟩ ?_
    refine h _ _ hW (fun Q2 h2 => ?_)
    refine ent (n := 170) z315 (by decide) rfl (by decide) (Nat.le_of_ble_eq_true rfl) (fun sc2 => ?_)
    refine And.intro (Wdo_142 hW) ?_
    refine And.intro (Wdo_142 hW) (Exists.intro _ (And.intro (show va_rf (mR m 142 3) = .null by rw [hL0.1]; rfl) ?_))
    refine And.intro ⟨by omega, Nat.le_of_ble_eq_true rfl, Nat.le_refl _, Nat.le_refl _⟩ (And.intro (Wdo_142 hW) ?_)
    refine C200 (m := (uI (uI m 0 0 (nI 1)) 142 0 (nI 0))) hW ?_
    refine And.intro ⟨rfl, trivial, Nat.le_refl _, Nat.le_refl _⟩ ?_
    exact h2 _ (Rel_ans hR (by decide))
  · skip
    obtain ⟨hq, w, u, ha0, ha1, hq0, hq1w, hw6, hu4, hwu, hgr⟩ := RL_q hq1
    obtain ⟨h158, hqz, hN, h3, ⟨T, hI⟩, hst, hla, hLQ, hSR⟩ := hq1
    have hq6 : mI m q 6 = nI n4r := hLQ.1.2.2.2.2.2.2.1.trans hn4
    have hq5 : mI m q 5 = nI n2r := hLQ.1.2.2.2.2.2.1.trans hn2
    have hq13 : mI m q 13 = nI ns := hLQ.1.2.2.2.2.2.2.2.2.2.2.2.2.2.1.trans hns
    have nss : nv (mI m (a + 1) 11) = ns := by rw [hns, nv_nI (by omega)]
    have hv5 : ∀ i, i < ns → iR (mI m (a + 12) i) 4 ∧ iR (mI m (a + 13) i) 10 ∧ nI 1 ≤ mI m (a + 13) i := fun i hi => hI.2.2.2.2.2.2.2.1 i (nss.symm ▸ hi)
    have hq11 : ∀ i, i < ns → mI m (q + 20) i = mI m (a + 12) i ∧ mI m (q + 21) i = mI m (a + 13) i := fun i hi => hLQ.2.2.2.2.2.2.2.2.2.2.2.1 i (nss.symm ▸ hi)
    have hspQ : ∀ i, i < ns → iR (mI m (q + 20) i) 4 ∧ iR (mI m (q + 21) i) 10 ∧ nI 1 ≤ mI m (q + 21) i := fun i hi => by rw [(hq11 i hi).1, (hq11 i hi).2]; exact hv5 i hi
    obtain ⟨l, hl, el⟩ := hI.2.2.2.2.2.2.2.2.2.2.2.2.2.1
    have hlk : luF (mI m q 16) = nI l := luck_l (Λ := lam m a) (E := lam m q) hLQ.2.1 hl el
    refine ent (n := 98) z155 (by decide) rfl (by decide) (Nat.le_of_ble_eq_true rfl) (fun sc => ?_)
    refine And.intro (Wdo_0 hW) (Exists.intro _ (And.intro ha ?_))
    refine And.intro ⟨by omega, Nat.le_of_ble_eq_true rfl, Nat.le_refl _, Nat.le_refl _⟩ (And.intro (LWo_0 hL) ?_)
    refine C21 hL ?_
    refine And.intro (fun cz3 => False.elim (absurd (hst0) (bi_eq0.mp cz3))) (fun cz3 => ?_)
    refine And.intro (fun cz5 => ?_) (fun cz5 => ?_)
    · -- 5 taken: x < 0
      refine And.intro ⟨by omega, Nat.le_of_ble_eq_true rfl, Nat.le_refl _, Nat.le_refl _⟩ (And.intro (Wdo_0 hW) ?_)
      refine C176 hW ?_
      refine And.intro ⟨rfl, trivial, Nat.le_refl _, Nat.le_refl _⟩ ?_
      refine h _ _ hW (fun Q2 h2 => ?_)
      refine ent (n := 170) z315 (by decide) rfl (by decide) (Nat.le_of_ble_eq_true rfl) (fun sc2 => ?_)
      refine And.intro (Wdo_142 hW) ?_
      refine And.intro (Wdo_142 hW) (Exists.intro _ (And.intro hq ?_))
      refine And.intro ⟨by omega, Nat.le_of_ble_eq_true rfl, Nat.le_refl _, Nat.le_refl _⟩ ?_
      refine C204 (m := (uI (uI m 0 0 (nI 1)) 142 0 (nI 0))) ?_
      refine And.intro (fun cr10 => False.elim (absurd (bi_ne0.mp cr10) (fun z9 => absurd cz5 (Int32.not_lt.mpr z9.1)))) (fun cr10 => ?_)
      refine And.intro ⟨by omega, Nat.le_of_ble_eq_true rfl, Nat.le_refl _, Nat.le_refl _⟩ (And.intro (Wdo_142 hW) ?_)
      refine C200 (m := (uI (uI m 0 0 (nI 1)) 142 0 (nI 0))) hW ?_
      refine And.intro ⟨rfl, trivial, Nat.le_refl _, Nat.le_refl _⟩ ?_
      exact h2 _ (Rel_ans hR (by decide))
    · -- 5 not: ¬ x < 0
      refine And.intro (fun cz8 => ?_) (fun cz8 => ?_)
      · -- 8 taken: x ≤ nI 2
        refine And.intro (Wdo_0 hW) (Exists.intro _ (And.intro (Wdr_0_10 hW) ?_))
        refine And.intro (Wdo_0 hW) (Exists.intro _ (And.intro ha ?_))
        refine And.intro ⟨by omega, Nat.le_of_ble_eq_true rfl, Nat.le_refl _, Nat.le_refl _⟩ (And.intro (Wdo_139 hW) ?_)
        have hpp := (bput_self (m := m) (x := 139) (n := 2)).symm
        have hE9 : (fun f => mI m (139 + f)) 0 4 = nI 0 ∨ (fun f => mI m (139 + f)) 0 4 = nI 1 ∧ NI 720 (fun f => mI m (139 + f)) (rc (mI m (a + 12)) (mI m (a + 13)) 6 (2 ^ ns - 1) (mI m a 3)) := by
          have w9 := hX.2.2.2.2.2
          unfold RelE at w9
          rw [nss] at w9
          exact w9
        generalize (fun f => mI m (139 + f)) = DD at hpp hE9
        rw [hpp]
        refine D92r (D := DD) (ns := ns) hW hL (by omega) (by omega) hns (by omega) hE9 (fun D1 hNI h14 => ?_)
        clear hpp
        have po : ∀ r, r ≠ 139 → r ≠ 140 → mI (bput m 139 2 D1) r = mI m r := fun r h1 h2 => by
          rcases Nat.lt_or_ge r 139 with z9 | z9
          · exact bput_lo (by omega)
          · exact bput_hi (by omega)
        have p139 : mI (bput m 139 2 D1) 139 = D1 0 := bput_0 (x := 139) (by decide)
        have p140 : mI (bput m 139 2 D1) 140 = D1 1 := bput_r (x := 139) (f := 1) (by decide)
        have a22 : (bput m 139 2 D1).2.2 = m.2.2 := bput_22
        generalize bput m 139 2 D1 = m9 at po p139 p140 a22 ⊢
        have hW0 := hW
        have hW : Wd m9.2.2 := by rw [a22]; exact hW0
        have hq : va_rf (mR m9 142 3) = .ref q := by rw [show mR m9 = mR m from congrArg (fun w : WR => w.1) a22]; exact hq
        have hN : NW m9.2.2 q := by rw [a22]; exact hN
        have hNIk := hNI
        obtain ⟨kk, hkk, h01, hinj, hiff, hmm⟩ := hNI
        refine And.intro (fun cz19 => ?_) (fun cz19 => ?_)
        · -- 19 taken: ¬ x = 0
          refine And.intro (fun cz29 => ?_) (fun cz29 => ?_)
          · -- 29 taken: ¬ x = nI 1
            refine And.intro (Wdo_0 hW) (Exists.intro _ (And.intro (Wdr_0_10 hW) ?_))
            refine And.intro (Wdo_139 hW) ?_
            refine And.intro ⟨by omega, Nat.le_of_ble_eq_true rfl, Nat.le_refl _, Nat.le_refl _⟩ (And.intro (Wdo_0 hW) ?_)
            refine C177 hW ?_
            refine And.intro ⟨rfl, trivial, Nat.le_refl _, Nat.le_refl _⟩ ?_
            refine h _ _ hW (fun Q2 h2 => ?_)
            refine ent (n := 170) z315 (by decide) rfl (by decide) (Nat.le_of_ble_eq_true rfl) (fun sc2 => ?_)
            refine And.intro (Wdo_142 hW) ?_
            refine And.intro (Wdo_142 hW) (Exists.intro _ (And.intro hq ?_))
            refine And.intro ⟨by omega, Nat.le_of_ble_eq_true rfl, Nat.le_refl _, Nat.le_refl _⟩ ?_
            refine C204 (m := (uI (uI m9 0 0 (nI 0)) 142 0 (nI 0))) ?_
            refine And.intro (fun cr10 => ?_) (fun cr10 => False.elim (absurd (⟨Int32.not_lt.mp cz5, cz8⟩) (bi_eq0.mp cr10)))
            refine And.intro ⟨by omega, Nat.le_of_ble_eq_true rfl, Nat.le_refl _, Nat.le_refl _⟩ (And.intro (Wdo_142 hW) ?_)
            have t22 : (uI (uI m9 0 0 (nI 0)) 142 0 (nI 0)).2.2 = m.2.2 := by rw [uI_22, uI_22]; exact a22
            have tI : ∀ r, r ≠ 139 → r ≠ 140 → r ≠ 0 → r ≠ 142 → mI (uI (uI m9 0 0 (nI 0)) 142 0 (nI 0)) r = mI m r := fun r g1 g2 h2 h3 => by rw [uI_ne h3, uI_ne h2, po r g1 g2]
            have t139 : mI (uI (uI m9 0 0 (nI 0)) 142 0 (nI 0)) 139 = D1 0 := by rw [uI_ne (by decide), uI_ne (by decide), p139]
            have t140 : mI (uI (uI m9 0 0 (nI 0)) 142 0 (nI 0)) 140 = D1 1 := by rw [uI_ne (by decide), uI_ne (by decide), p140]
            have t0 : mI (uI (uI m9 0 0 (nI 0)) 142 0 (nI 0)) 0 0 = nI 0 := by rw [uI_ne (by decide), uI_eq, upd_e]
            have t0k : ∀ k, k ≠ 0 → mI (uI (uI m9 0 0 (nI 0)) 142 0 (nI 0)) 0 k = mI m 0 k := fun k hk => by rw [uI_ne (by decide), uI_eq, upd_o hk, po 0 (by decide) (by decide)]
            have t142 : ∀ k, k ≠ 0 → mI (uI (uI m9 0 0 (nI 0)) 142 0 (nI 0)) 142 k = mI m 142 k := fun k hk => by rw [uI_eq, upd_o hk, uI_ne (by decide), po 142 (by decide) (by decide)]
            generalize (uI (uI m9 0 0 (nI 0)) 142 0 (nI 0)) = m8 at t22 tI t139 t140 t0 t0k t142 ⊢
            have hW : Wd m8.2.2 := by rw [t22]; exact hW0
            have hN : NW m8.2.2 q := by rw [t22, ← a22]; exact hN
            have hq : va_rf (mR m8 142 3) = .ref q := by rw [show mR m8 = mR m9 from congrArg (fun w : WR => w.1) (t22.trans a22.symm)]; exact hq
            have hpp := (bput_self (m := m8) (x := 142) (n := 15)).symm
            have d20 : ∀ f, (fun f => mI m8 (142 + f)) f = mI m8 (142 + f) := fun f => rfl
            generalize (fun f => mI m8 (142 + f)) = DD2 at hpp d20
            rw [hpp]
            refine D313 (q := q) (ns := ns) (l := l) (so := mI m (a + 12)) (am := mI m (a + 13)) (by omega) hW hN h158 hq (by rw [tI q (by omega) (by omega) (by omega) (by omega)]; exact hq13) (by omega) hv5 (fun i hi => by rw [tI (q + 20) (by omega) (by omega) (by omega) (by omega), tI (q + 21) (by omega) (by omega) (by omega) (by omega)]; exact hq11 i hi) (by rw [tI q (by omega) (by omega) (by omega) (by omega)]; exact hlk) (by omega) (fun D2 hEI hDF => ?_)
            clear hpp
            have s22 : (bput m8 142 15 D2).2.2 = m8.2.2 := bput_22
            have s142 : mI (bput m8 142 15 D2) 142 = D2 0 := bput_0 (x := 142) (by decide)
            have s156 : mI (bput m8 142 15 D2) 156 = D2 14 := bput_r (x := 142) (f := 14) (by decide)
            have sI : ∀ r, r ≠ 142 → r ≠ 156 → mI (bput m8 142 15 D2) r = mI m8 r := fun r h1 h2 => by
              rcases Nat.lt_or_ge r 142 with z9 | z9
              · exact bput_lo (by omega)
              · rcases Nat.lt_or_ge r 157 with y9 | y9
                · have w9 := bput_r (m := m8) (x := 142) (n := 15) (f := r - 142) (D := D2) (by omega)
                  rw [show 142 + (r - 142) = r by omega] at w9
                  rw [w9, hDF.1 (r - 142) (by omega) (by omega), d20, show 142 + (r - 142) = r by omega]
                · exact bput_hi (by omega)
            have s142k : ∀ k, k ≠ 32 → mI (bput m8 142 15 D2) 142 k = mI m8 142 k := fun k hk => by rw [s142, hDF.2 k hk, d20]
            rw [← el] at hEI
            obtain ⟨kk2, hkk2, er32, hinj2, hiff2⟩ := hEI
            rw [← s142] at er32
            rw [← s156] at hinj2 hiff2
            generalize bput m8 142 15 D2 = m7 at s22 s142 s156 sI s142k er32 hinj2 hiff2 ⊢
            have hW : Wd m7.2.2 := by rw [s22]; exact hW
            have hke : kk = kk2 := enum_eq hinj hinj2 hiff hiff2
            have hS0 : ∃ v, (rc (mI m (a + 12)) (mI m (a + 13)) 6 (2 ^ ns - 1) (mI m a 3)) v := by
              have hu := un_q ns (by omega)
              exact rc_ne 6 (2 ^ ns - 1) _ hu.2.1 (by rw [hu.2.2.1]; omega)
            have hkp : 0 < kk := by
              obtain ⟨v9, hv9⟩ := hS0
              obtain ⟨i9, hi9, -⟩ := (hiff v9).mp hv9
              omega
            refine And.intro (Wdo_142 hW) (Exists.intro _ (And.intro (Wdr_142_31 hW) ?_))
            refine And.intro (Wdi_156 hW (vi rfl (by omega))) ?_
            rw [nI_clamp (show 0 < 2 ^ 31 by omega)]
            refine And.intro (Wdo_142 hW) (Exists.intro _ (And.intro (Wdr_142_31 hW) ?_))
            refine And.intro (Wdi_156 hW (vi rfl (by omega))) ?_
            rw [nI_clamp (show 0 < 2 ^ 31 by omega)]
            show Jj sc2 d 0 0 (mth 315) (pg P315 29).1 [some (.ref 142), some (.int x), some (.int (mI m7 156 0)), some (.int (mI m7 156 0)), some (.int (nI 1))] [] m7 0 0 Q2
            have y0 : ∀ r, r ≠ 142 → mI (uI (uI m7 142 1 (nI 0)) 142 2 (-nI 1)) r = mI m7 r := fun r g => by rw [uI_ne g, uI_ne g]
            have x0 : ∀ x, x ≠ 0 → x ≠ 1 → x ≠ 2 → x ≠ 32 → mI (uI (uI m7 142 1 (nI 0)) 142 2 (-nI 1)) 142 x = mI m 142 x := fun x g0 g1 g2 g3 => by rw [uI_eq, upd_o g2, uI_eq, upd_o g1, s142k x g3, t142 x g0]
            have y1 : ∀ r, r ≠ 139 → r ≠ 140 → r ≠ 0 → r ≠ 142 → r ≠ 156 → mI (uI (uI m7 142 1 (nI 0)) 142 2 (-nI 1)) r = mI m r := fun r g1 g2 g3 g4 g5 => by rw [y0 r g4, sI r g4 g5, tI r g1 g2 g3 g4]
            have y2 : mI (uI (uI m7 142 1 (nI 0)) 142 2 (-nI 1)) 0 0 = nI 0 := by rw [y0 0 (by decide), sI 0 (by decide) (by decide), t0]
            have y3 : ∀ k, k ≠ 0 → mI (uI (uI m7 142 1 (nI 0)) 142 2 (-nI 1)) 0 k = mI m 0 k := fun k hk => by rw [y0 0 (by decide), sI 0 (by decide) (by decide), t0k k hk]
            have y139 : mI (uI (uI m7 142 1 (nI 0)) 142 2 (-nI 1)) 139 = D1 0 := by rw [y0 139 (by decide), sI 139 (by decide) (by decide), t139]
            have y140 : mI (uI (uI m7 142 1 (nI 0)) 142 2 (-nI 1)) 140 = D1 1 := by rw [y0 140 (by decide), sI 140 (by decide) (by decide), t140]
            have hFin : Rel z (uI (uI m7 142 1 (nI 0)) 142 2 (-nI 1)) := by
              refine Rel_p hW0 hz hA hX (by rw [uI_22, uI_22, s22]; exact t22) (fun r g1 g2 g3 g4 g5 g6 => y1 r g5 g4 g2 g3 (fun z9 => g1 (by unfold scr; omega))) (RelD_same (y3 12 (by decide)) (fun f hf => y1 (a + f) (by omega) (by omega) (by omega) (by omega) (by omega)) (by rw [y1 20 (by decide) (by decide) (by decide) (by decide) (by decide)]) (y1 (20 + 1) (by decide) (by decide) (by decide) (by decide) (by decide)) (y1 (20 + 2) (by decide) (by decide) (by decide) (by decide) (by decide)) (fun f hf => y1 (112 + f) (by omega) (by omega) (by omega) (by omega) (by omega)) hX.2.2.2.2.1) (Or.inr ⟨by rw [y139]; exact h14, ?_⟩) (x0 6 (by decide) (by decide) (by decide) (by decide)) (x0 21 (by decide) (by decide) (by decide) (by decide)) (x0 22 (by decide) (by decide) (by decide) (by decide)) ⟨?_, ?_, ?_⟩
              · rw [y1 (a + 12) (by omega) (by omega) (by omega) (by omega) (by omega), y1 (a + 13) (by omega) (by omega) (by omega) (by omega) (by omega), y1 (a + 1) (by omega) (by omega) (by omega) (by omega) (by omega), y1 a (by omega) (by omega) (by omega) (by omega) (by omega), nss]
                exact NI_2 (E := D1) y139 y140 hNIk
              · rw [y2, uI_eq, upd_o (by decide), uI_eq, upd_e]
              · rw [x0 14 (by decide) (by decide) (by decide) (by decide), y3 1 (by decide)]; exact hS.2.1
              · rw [y2, uI_eq, upd_e, if_neg (by decide)]
            have hE2 : ∀ i1, i1 < kk2 → (rc (mI m (a + 12)) (mI m (a + 13)) 6 (2 ^ ns - 1) (mI m a 3)) (mI m7 156 i1) := fun i1 h9 => (hiff2 _).mpr ⟨i1, h9, rfl⟩
            have hmm2 := hmm hkp
            refine lend (m := m7) (kk := kk2) (by omega) hW er32 hkk2 (fun z9 => ?_) (fun z9 y9 lo hl1 hl2 => ?_) (fun z9 y9 hi hl1 hl2 => ?_) (kk2 + 1) 1 _ _ (by omega) (by omega) ⟨⟨⟨0, by decide, rfl⟩, fun i1 h9 => by rw [show i1 = 0 by omega]; exact Int32.le_refl _⟩, ⟨⟨0, by decide, rfl⟩, fun i1 h9 => by rw [show i1 = 0 by omega]; exact Int32.le_refl _⟩⟩
            · exact absurd z9 cz19
            · exact absurd y9 cz29
            · have hlo : hi = mI m9 139 3 := by
                rw [p139]
                obtain ⟨i1, hi1, ei1⟩ := hl1
                obtain ⟨i2, hi2, ei2⟩ := (hiff2 _).mp hmm2.2.2
                refine Int32.le_antisymm ?_ (by rw [← ei2]; exact hl2 i2 hi2)
                rw [← ei1]
                exact (hmm2.1 _ (hE2 i1 hi1)).2
              rw [hlo]
              exact h2 _ hFin
          · -- 29 not: x = nI 1
            refine And.intro (Wdo_0 hW) (Exists.intro _ (And.intro (Wdr_0_10 hW) ?_))
            refine And.intro (Wdo_139 hW) ?_
            refine And.intro ⟨by omega, Nat.le_of_ble_eq_true rfl, Nat.le_refl _, Nat.le_refl _⟩ (And.intro (Wdo_0 hW) ?_)
            refine C177 hW ?_
            refine And.intro ⟨rfl, trivial, Nat.le_refl _, Nat.le_refl _⟩ ?_
            refine h _ _ hW (fun Q2 h2 => ?_)
            refine ent (n := 170) z315 (by decide) rfl (by decide) (Nat.le_of_ble_eq_true rfl) (fun sc2 => ?_)
            refine And.intro (Wdo_142 hW) ?_
            refine And.intro (Wdo_142 hW) (Exists.intro _ (And.intro hq ?_))
            refine And.intro ⟨by omega, Nat.le_of_ble_eq_true rfl, Nat.le_refl _, Nat.le_refl _⟩ ?_
            refine C204 (m := (uI (uI m9 0 0 (nI 0)) 142 0 (nI 0))) ?_
            refine And.intro (fun cr10 => ?_) (fun cr10 => False.elim (absurd (⟨Int32.not_lt.mp cz5, cz8⟩) (bi_eq0.mp cr10)))
            refine And.intro ⟨by omega, Nat.le_of_ble_eq_true rfl, Nat.le_refl _, Nat.le_refl _⟩ (And.intro (Wdo_142 hW) ?_)
            have t22 : (uI (uI m9 0 0 (nI 0)) 142 0 (nI 0)).2.2 = m.2.2 := by rw [uI_22, uI_22]; exact a22
            have tI : ∀ r, r ≠ 139 → r ≠ 140 → r ≠ 0 → r ≠ 142 → mI (uI (uI m9 0 0 (nI 0)) 142 0 (nI 0)) r = mI m r := fun r g1 g2 h2 h3 => by rw [uI_ne h3, uI_ne h2, po r g1 g2]
            have t139 : mI (uI (uI m9 0 0 (nI 0)) 142 0 (nI 0)) 139 = D1 0 := by rw [uI_ne (by decide), uI_ne (by decide), p139]
            have t140 : mI (uI (uI m9 0 0 (nI 0)) 142 0 (nI 0)) 140 = D1 1 := by rw [uI_ne (by decide), uI_ne (by decide), p140]
            have t0 : mI (uI (uI m9 0 0 (nI 0)) 142 0 (nI 0)) 0 0 = nI 0 := by rw [uI_ne (by decide), uI_eq, upd_e]
            have t0k : ∀ k, k ≠ 0 → mI (uI (uI m9 0 0 (nI 0)) 142 0 (nI 0)) 0 k = mI m 0 k := fun k hk => by rw [uI_ne (by decide), uI_eq, upd_o hk, po 0 (by decide) (by decide)]
            have t142 : ∀ k, k ≠ 0 → mI (uI (uI m9 0 0 (nI 0)) 142 0 (nI 0)) 142 k = mI m 142 k := fun k hk => by rw [uI_eq, upd_o hk, uI_ne (by decide), po 142 (by decide) (by decide)]
            generalize (uI (uI m9 0 0 (nI 0)) 142 0 (nI 0)) = m8 at t22 tI t139 t140 t0 t0k t142 ⊢
            have hW : Wd m8.2.2 := by rw [t22]; exact hW0
            have hN : NW m8.2.2 q := by rw [t22, ← a22]; exact hN
            have hq : va_rf (mR m8 142 3) = .ref q := by rw [show mR m8 = mR m9 from congrArg (fun w : WR => w.1) (t22.trans a22.symm)]; exact hq
            have hpp := (bput_self (m := m8) (x := 142) (n := 15)).symm
            have d20 : ∀ f, (fun f => mI m8 (142 + f)) f = mI m8 (142 + f) := fun f => rfl
            generalize (fun f => mI m8 (142 + f)) = DD2 at hpp d20
            rw [hpp]
            refine D313 (q := q) (ns := ns) (l := l) (so := mI m (a + 12)) (am := mI m (a + 13)) (by omega) hW hN h158 hq (by rw [tI q (by omega) (by omega) (by omega) (by omega)]; exact hq13) (by omega) hv5 (fun i hi => by rw [tI (q + 20) (by omega) (by omega) (by omega) (by omega), tI (q + 21) (by omega) (by omega) (by omega) (by omega)]; exact hq11 i hi) (by rw [tI q (by omega) (by omega) (by omega) (by omega)]; exact hlk) (by omega) (fun D2 hEI hDF => ?_)
            clear hpp
            have s22 : (bput m8 142 15 D2).2.2 = m8.2.2 := bput_22
            have s142 : mI (bput m8 142 15 D2) 142 = D2 0 := bput_0 (x := 142) (by decide)
            have s156 : mI (bput m8 142 15 D2) 156 = D2 14 := bput_r (x := 142) (f := 14) (by decide)
            have sI : ∀ r, r ≠ 142 → r ≠ 156 → mI (bput m8 142 15 D2) r = mI m8 r := fun r h1 h2 => by
              rcases Nat.lt_or_ge r 142 with z9 | z9
              · exact bput_lo (by omega)
              · rcases Nat.lt_or_ge r 157 with y9 | y9
                · have w9 := bput_r (m := m8) (x := 142) (n := 15) (f := r - 142) (D := D2) (by omega)
                  rw [show 142 + (r - 142) = r by omega] at w9
                  rw [w9, hDF.1 (r - 142) (by omega) (by omega), d20, show 142 + (r - 142) = r by omega]
                · exact bput_hi (by omega)
            have s142k : ∀ k, k ≠ 32 → mI (bput m8 142 15 D2) 142 k = mI m8 142 k := fun k hk => by rw [s142, hDF.2 k hk, d20]
            rw [← el] at hEI
            obtain ⟨kk2, hkk2, er32, hinj2, hiff2⟩ := hEI
            rw [← s142] at er32
            rw [← s156] at hinj2 hiff2
            generalize bput m8 142 15 D2 = m7 at s22 s142 s156 sI s142k er32 hinj2 hiff2 ⊢
            have hW : Wd m7.2.2 := by rw [s22]; exact hW
            have hke : kk = kk2 := enum_eq hinj hinj2 hiff hiff2
            have hS0 : ∃ v, (rc (mI m (a + 12)) (mI m (a + 13)) 6 (2 ^ ns - 1) (mI m a 3)) v := by
              have hu := un_q ns (by omega)
              exact rc_ne 6 (2 ^ ns - 1) _ hu.2.1 (by rw [hu.2.2.1]; omega)
            have hkp : 0 < kk := by
              obtain ⟨v9, hv9⟩ := hS0
              obtain ⟨i9, hi9, -⟩ := (hiff v9).mp hv9
              omega
            refine And.intro (Wdo_142 hW) (Exists.intro _ (And.intro (Wdr_142_31 hW) ?_))
            refine And.intro (Wdi_156 hW (vi rfl (by omega))) ?_
            rw [nI_clamp (show 0 < 2 ^ 31 by omega)]
            refine And.intro (Wdo_142 hW) (Exists.intro _ (And.intro (Wdr_142_31 hW) ?_))
            refine And.intro (Wdi_156 hW (vi rfl (by omega))) ?_
            rw [nI_clamp (show 0 < 2 ^ 31 by omega)]
            show Jj sc2 d 0 0 (mth 315) (pg P315 29).1 [some (.ref 142), some (.int x), some (.int (mI m7 156 0)), some (.int (mI m7 156 0)), some (.int (nI 1))] [] m7 0 0 Q2
            have y0 : ∀ r, r ≠ 142 → mI (uI (uI m7 142 1 (nI 0)) 142 2 (-nI 1)) r = mI m7 r := fun r g => by rw [uI_ne g, uI_ne g]
            have x0 : ∀ x, x ≠ 0 → x ≠ 1 → x ≠ 2 → x ≠ 32 → mI (uI (uI m7 142 1 (nI 0)) 142 2 (-nI 1)) 142 x = mI m 142 x := fun x g0 g1 g2 g3 => by rw [uI_eq, upd_o g2, uI_eq, upd_o g1, s142k x g3, t142 x g0]
            have y1 : ∀ r, r ≠ 139 → r ≠ 140 → r ≠ 0 → r ≠ 142 → r ≠ 156 → mI (uI (uI m7 142 1 (nI 0)) 142 2 (-nI 1)) r = mI m r := fun r g1 g2 g3 g4 g5 => by rw [y0 r g4, sI r g4 g5, tI r g1 g2 g3 g4]
            have y2 : mI (uI (uI m7 142 1 (nI 0)) 142 2 (-nI 1)) 0 0 = nI 0 := by rw [y0 0 (by decide), sI 0 (by decide) (by decide), t0]
            have y3 : ∀ k, k ≠ 0 → mI (uI (uI m7 142 1 (nI 0)) 142 2 (-nI 1)) 0 k = mI m 0 k := fun k hk => by rw [y0 0 (by decide), sI 0 (by decide) (by decide), t0k k hk]
            have y139 : mI (uI (uI m7 142 1 (nI 0)) 142 2 (-nI 1)) 139 = D1 0 := by rw [y0 139 (by decide), sI 139 (by decide) (by decide), t139]
            have y140 : mI (uI (uI m7 142 1 (nI 0)) 142 2 (-nI 1)) 140 = D1 1 := by rw [y0 140 (by decide), sI 140 (by decide) (by decide), t140]
            have hFin : Rel z (uI (uI m7 142 1 (nI 0)) 142 2 (-nI 1)) := by
              refine Rel_p hW0 hz hA hX (by rw [uI_22, uI_22, s22]; exact t22) (fun r g1 g2 g3 g4 g5 g6 => y1 r g5 g4 g2 g3 (fun z9 => g1 (by unfold scr; omega))) (RelD_same (y3 12 (by decide)) (fun f hf => y1 (a + f) (by omega) (by omega) (by omega) (by omega) (by omega)) (by rw [y1 20 (by decide) (by decide) (by decide) (by decide) (by decide)]) (y1 (20 + 1) (by decide) (by decide) (by decide) (by decide) (by decide)) (y1 (20 + 2) (by decide) (by decide) (by decide) (by decide) (by decide)) (fun f hf => y1 (112 + f) (by omega) (by omega) (by omega) (by omega) (by omega)) hX.2.2.2.2.1) (Or.inr ⟨by rw [y139]; exact h14, ?_⟩) (x0 6 (by decide) (by decide) (by decide) (by decide)) (x0 21 (by decide) (by decide) (by decide) (by decide)) (x0 22 (by decide) (by decide) (by decide) (by decide)) ⟨?_, ?_, ?_⟩
              · rw [y1 (a + 12) (by omega) (by omega) (by omega) (by omega) (by omega), y1 (a + 13) (by omega) (by omega) (by omega) (by omega) (by omega), y1 (a + 1) (by omega) (by omega) (by omega) (by omega) (by omega), y1 a (by omega) (by omega) (by omega) (by omega) (by omega), nss]
                exact NI_2 (E := D1) y139 y140 hNIk
              · rw [y2, uI_eq, upd_o (by decide), uI_eq, upd_e]
              · rw [x0 14 (by decide) (by decide) (by decide) (by decide), y3 1 (by decide)]; exact hS.2.1
              · rw [y2, uI_eq, upd_e, if_neg (by decide)]
            have hE2 : ∀ i1, i1 < kk2 → (rc (mI m (a + 12)) (mI m (a + 13)) 6 (2 ^ ns - 1) (mI m a 3)) (mI m7 156 i1) := fun i1 h9 => (hiff2 _).mpr ⟨i1, h9, rfl⟩
            have hmm2 := hmm hkp
            refine lend (m := m7) (kk := kk2) (by omega) hW er32 hkk2 (fun z9 => ?_) (fun z9 y9 lo hl1 hl2 => ?_) (fun z9 y9 hi hl1 hl2 => ?_) (kk2 + 1) 1 _ _ (by omega) (by omega) ⟨⟨⟨0, by decide, rfl⟩, fun i1 h9 => by rw [show i1 = 0 by omega]; exact Int32.le_refl _⟩, ⟨⟨0, by decide, rfl⟩, fun i1 h9 => by rw [show i1 = 0 by omega]; exact Int32.le_refl _⟩⟩
            · exact absurd z9 cz19
            · have hlo : lo = mI m9 139 2 := by
                rw [p139]
                obtain ⟨i1, hi1, ei1⟩ := hl1
                obtain ⟨i2, hi2, ei2⟩ := (hiff2 _).mp hmm2.2.1
                refine Int32.le_antisymm (by rw [← ei2]; exact hl2 i2 hi2) ?_
                rw [← ei1]
                exact (hmm2.1 _ (hE2 i1 hi1)).1
              rw [hlo]
              exact h2 _ hFin
            · exact absurd cz29 y9
        · -- 19 not: x = 0
          refine And.intro (Wdo_0 hW) (Exists.intro _ (And.intro (Wdr_0_10 hW) ?_))
          refine And.intro (Wdo_139 hW) ?_
          refine And.intro ⟨by omega, Nat.le_of_ble_eq_true rfl, Nat.le_refl _, Nat.le_refl _⟩ (And.intro (Wdo_0 hW) ?_)
          refine C177 hW ?_
          refine And.intro ⟨rfl, trivial, Nat.le_refl _, Nat.le_refl _⟩ ?_
          refine h _ _ hW (fun Q2 h2 => ?_)
          refine ent (n := 170) z315 (by decide) rfl (by decide) (Nat.le_of_ble_eq_true rfl) (fun sc2 => ?_)
          refine And.intro (Wdo_142 hW) ?_
          refine And.intro (Wdo_142 hW) (Exists.intro _ (And.intro hq ?_))
          refine And.intro ⟨by omega, Nat.le_of_ble_eq_true rfl, Nat.le_refl _, Nat.le_refl _⟩ ?_
          refine C204 (m := (uI (uI m9 0 0 (nI 0)) 142 0 (nI 0))) ?_
          refine And.intro (fun cr10 => ?_) (fun cr10 => False.elim (absurd (⟨Int32.not_lt.mp cz5, cz8⟩) (bi_eq0.mp cr10)))
          refine And.intro ⟨by omega, Nat.le_of_ble_eq_true rfl, Nat.le_refl _, Nat.le_refl _⟩ (And.intro (Wdo_142 hW) ?_)
          have t22 : (uI (uI m9 0 0 (nI 0)) 142 0 (nI 0)).2.2 = m.2.2 := by rw [uI_22, uI_22]; exact a22
          have tI : ∀ r, r ≠ 139 → r ≠ 140 → r ≠ 0 → r ≠ 142 → mI (uI (uI m9 0 0 (nI 0)) 142 0 (nI 0)) r = mI m r := fun r g1 g2 h2 h3 => by rw [uI_ne h3, uI_ne h2, po r g1 g2]
          have t139 : mI (uI (uI m9 0 0 (nI 0)) 142 0 (nI 0)) 139 = D1 0 := by rw [uI_ne (by decide), uI_ne (by decide), p139]
          have t140 : mI (uI (uI m9 0 0 (nI 0)) 142 0 (nI 0)) 140 = D1 1 := by rw [uI_ne (by decide), uI_ne (by decide), p140]
          have t0 : mI (uI (uI m9 0 0 (nI 0)) 142 0 (nI 0)) 0 0 = nI 0 := by rw [uI_ne (by decide), uI_eq, upd_e]
          have t0k : ∀ k, k ≠ 0 → mI (uI (uI m9 0 0 (nI 0)) 142 0 (nI 0)) 0 k = mI m 0 k := fun k hk => by rw [uI_ne (by decide), uI_eq, upd_o hk, po 0 (by decide) (by decide)]
          have t142 : ∀ k, k ≠ 0 → mI (uI (uI m9 0 0 (nI 0)) 142 0 (nI 0)) 142 k = mI m 142 k := fun k hk => by rw [uI_eq, upd_o hk, uI_ne (by decide), po 142 (by decide) (by decide)]
          generalize (uI (uI m9 0 0 (nI 0)) 142 0 (nI 0)) = m8 at t22 tI t139 t140 t0 t0k t142 ⊢
          have hW : Wd m8.2.2 := by rw [t22]; exact hW0
          have hN : NW m8.2.2 q := by rw [t22, ← a22]; exact hN
          have hq : va_rf (mR m8 142 3) = .ref q := by rw [show mR m8 = mR m9 from congrArg (fun w : WR => w.1) (t22.trans a22.symm)]; exact hq
          have hpp := (bput_self (m := m8) (x := 142) (n := 15)).symm
          have d20 : ∀ f, (fun f => mI m8 (142 + f)) f = mI m8 (142 + f) := fun f => rfl
          generalize (fun f => mI m8 (142 + f)) = DD2 at hpp d20
          rw [hpp]
          refine D313 (q := q) (ns := ns) (l := l) (so := mI m (a + 12)) (am := mI m (a + 13)) (by omega) hW hN h158 hq (by rw [tI q (by omega) (by omega) (by omega) (by omega)]; exact hq13) (by omega) hv5 (fun i hi => by rw [tI (q + 20) (by omega) (by omega) (by omega) (by omega), tI (q + 21) (by omega) (by omega) (by omega) (by omega)]; exact hq11 i hi) (by rw [tI q (by omega) (by omega) (by omega) (by omega)]; exact hlk) (by omega) (fun D2 hEI hDF => ?_)
          clear hpp
          have s22 : (bput m8 142 15 D2).2.2 = m8.2.2 := bput_22
          have s142 : mI (bput m8 142 15 D2) 142 = D2 0 := bput_0 (x := 142) (by decide)
          have s156 : mI (bput m8 142 15 D2) 156 = D2 14 := bput_r (x := 142) (f := 14) (by decide)
          have sI : ∀ r, r ≠ 142 → r ≠ 156 → mI (bput m8 142 15 D2) r = mI m8 r := fun r h1 h2 => by
            rcases Nat.lt_or_ge r 142 with z9 | z9
            · exact bput_lo (by omega)
            · rcases Nat.lt_or_ge r 157 with y9 | y9
              · have w9 := bput_r (m := m8) (x := 142) (n := 15) (f := r - 142) (D := D2) (by omega)
                rw [show 142 + (r - 142) = r by omega] at w9
                rw [w9, hDF.1 (r - 142) (by omega) (by omega), d20, show 142 + (r - 142) = r by omega]
              · exact bput_hi (by omega)
          have s142k : ∀ k, k ≠ 32 → mI (bput m8 142 15 D2) 142 k = mI m8 142 k := fun k hk => by rw [s142, hDF.2 k hk, d20]
          rw [← el] at hEI
          obtain ⟨kk2, hkk2, er32, hinj2, hiff2⟩ := hEI
          rw [← s142] at er32
          rw [← s156] at hinj2 hiff2
          generalize bput m8 142 15 D2 = m7 at s22 s142 s156 sI s142k er32 hinj2 hiff2 ⊢
          have hW : Wd m7.2.2 := by rw [s22]; exact hW
          have hke : kk = kk2 := enum_eq hinj hinj2 hiff hiff2
          have hS0 : ∃ v, (rc (mI m (a + 12)) (mI m (a + 13)) 6 (2 ^ ns - 1) (mI m a 3)) v := by
            have hu := un_q ns (by omega)
            exact rc_ne 6 (2 ^ ns - 1) _ hu.2.1 (by rw [hu.2.2.1]; omega)
          have hkp : 0 < kk := by
            obtain ⟨v9, hv9⟩ := hS0
            obtain ⟨i9, hi9, -⟩ := (hiff v9).mp hv9
            omega
          refine And.intro (Wdo_142 hW) (Exists.intro _ (And.intro (Wdr_142_31 hW) ?_))
          refine And.intro (Wdi_156 hW (vi rfl (by omega))) ?_
          rw [nI_clamp (show 0 < 2 ^ 31 by omega)]
          refine And.intro (Wdo_142 hW) (Exists.intro _ (And.intro (Wdr_142_31 hW) ?_))
          refine And.intro (Wdi_156 hW (vi rfl (by omega))) ?_
          rw [nI_clamp (show 0 < 2 ^ 31 by omega)]
          show Jj sc2 d 0 0 (mth 315) (pg P315 29).1 [some (.ref 142), some (.int x), some (.int (mI m7 156 0)), some (.int (mI m7 156 0)), some (.int (nI 1))] [] m7 0 0 Q2
          have y0 : ∀ r, r ≠ 142 → mI (uI (uI m7 142 1 (nI 0)) 142 2 (-nI 1)) r = mI m7 r := fun r g => by rw [uI_ne g, uI_ne g]
          have x0 : ∀ x, x ≠ 0 → x ≠ 1 → x ≠ 2 → x ≠ 32 → mI (uI (uI m7 142 1 (nI 0)) 142 2 (-nI 1)) 142 x = mI m 142 x := fun x g0 g1 g2 g3 => by rw [uI_eq, upd_o g2, uI_eq, upd_o g1, s142k x g3, t142 x g0]
          have y1 : ∀ r, r ≠ 139 → r ≠ 140 → r ≠ 0 → r ≠ 142 → r ≠ 156 → mI (uI (uI m7 142 1 (nI 0)) 142 2 (-nI 1)) r = mI m r := fun r g1 g2 g3 g4 g5 => by rw [y0 r g4, sI r g4 g5, tI r g1 g2 g3 g4]
          have y2 : mI (uI (uI m7 142 1 (nI 0)) 142 2 (-nI 1)) 0 0 = nI 0 := by rw [y0 0 (by decide), sI 0 (by decide) (by decide), t0]
          have y3 : ∀ k, k ≠ 0 → mI (uI (uI m7 142 1 (nI 0)) 142 2 (-nI 1)) 0 k = mI m 0 k := fun k hk => by rw [y0 0 (by decide), sI 0 (by decide) (by decide), t0k k hk]
          have y139 : mI (uI (uI m7 142 1 (nI 0)) 142 2 (-nI 1)) 139 = D1 0 := by rw [y0 139 (by decide), sI 139 (by decide) (by decide), t139]
          have y140 : mI (uI (uI m7 142 1 (nI 0)) 142 2 (-nI 1)) 140 = D1 1 := by rw [y0 140 (by decide), sI 140 (by decide) (by decide), t140]
          have hFin : Rel z (uI (uI m7 142 1 (nI 0)) 142 2 (-nI 1)) := by
            refine Rel_p hW0 hz hA hX (by rw [uI_22, uI_22, s22]; exact t22) (fun r g1 g2 g3 g4 g5 g6 => y1 r g5 g4 g2 g3 (fun z9 => g1 (by unfold scr; omega))) (RelD_same (y3 12 (by decide)) (fun f hf => y1 (a + f) (by omega) (by omega) (by omega) (by omega) (by omega)) (by rw [y1 20 (by decide) (by decide) (by decide) (by decide) (by decide)]) (y1 (20 + 1) (by decide) (by decide) (by decide) (by decide) (by decide)) (y1 (20 + 2) (by decide) (by decide) (by decide) (by decide) (by decide)) (fun f hf => y1 (112 + f) (by omega) (by omega) (by omega) (by omega) (by omega)) hX.2.2.2.2.1) (Or.inr ⟨by rw [y139]; exact h14, ?_⟩) (x0 6 (by decide) (by decide) (by decide) (by decide)) (x0 21 (by decide) (by decide) (by decide) (by decide)) (x0 22 (by decide) (by decide) (by decide) (by decide)) ⟨?_, ?_, ?_⟩
            · rw [y1 (a + 12) (by omega) (by omega) (by omega) (by omega) (by omega), y1 (a + 13) (by omega) (by omega) (by omega) (by omega) (by omega), y1 (a + 1) (by omega) (by omega) (by omega) (by omega) (by omega), y1 a (by omega) (by omega) (by omega) (by omega) (by omega), nss]
              exact NI_2 (E := D1) y139 y140 hNIk
            · rw [y2, uI_eq, upd_o (by decide), uI_eq, upd_e]
            · rw [x0 14 (by decide) (by decide) (by decide) (by decide), y3 1 (by decide)]; exact hS.2.1
            · rw [y2, uI_eq, upd_e, if_neg (by decide)]
          have hE2 : ∀ i1, i1 < kk2 → (rc (mI m (a + 12)) (mI m (a + 13)) 6 (2 ^ ns - 1) (mI m a 3)) (mI m7 156 i1) := fun i1 h9 => (hiff2 _).mpr ⟨i1, h9, rfl⟩
          have hmm2 := hmm hkp
          refine lend (m := m7) (kk := kk2) (by omega) hW er32 hkk2 (fun z9 => ?_) (fun z9 y9 lo hl1 hl2 => ?_) (fun z9 y9 hi hl1 hl2 => ?_) (kk2 + 1) 1 _ _ (by omega) (by omega) ⟨⟨⟨0, by decide, rfl⟩, fun i1 h9 => by rw [show i1 = 0 by omega]; exact Int32.le_refl _⟩, ⟨⟨0, by decide, rfl⟩, fun i1 h9 => by rw [show i1 = 0 by omega]; exact Int32.le_refl _⟩⟩
          · rw [show nI kk2 = mI m9 139 1 from by rw [p139, h01, hke]]
            exact h2 _ hFin
          · exact absurd cz19 z9
          · exact absurd cz19 z9
      · -- 8 not: ¬ x ≤ nI 2
        refine And.intro ⟨by omega, Nat.le_of_ble_eq_true rfl, Nat.le_refl _, Nat.le_refl _⟩ (And.intro (Wdo_0 hW) ?_)
        refine C176 hW ?_
        refine And.intro ⟨rfl, trivial, Nat.le_refl _, Nat.le_refl _⟩ ?_
        refine h _ _ hW (fun Q2 h2 => ?_)
        refine ent (n := 170) z315 (by decide) rfl (by decide) (Nat.le_of_ble_eq_true rfl) (fun sc2 => ?_)
        refine And.intro (Wdo_142 hW) ?_
        refine And.intro (Wdo_142 hW) (Exists.intro _ (And.intro hq ?_))
        refine And.intro ⟨by omega, Nat.le_of_ble_eq_true rfl, Nat.le_refl _, Nat.le_refl _⟩ ?_
        refine C204 (m := (uI (uI m 0 0 (nI 1)) 142 0 (nI 0))) ?_
        refine And.intro (fun cr10 => False.elim (absurd (bi_ne0.mp cr10) (fun z9 => absurd z9.2 cz8))) (fun cr10 => ?_)
        refine And.intro ⟨by omega, Nat.le_of_ble_eq_true rfl, Nat.le_refl _, Nat.le_refl _⟩ (And.intro (Wdo_142 hW) ?_)
        refine C200 (m := (uI (uI m 0 0 (nI 1)) 142 0 (nI 0))) hW ?_
        refine And.intro ⟨rfl, trivial, Nat.le_refl _, Nat.le_refl _⟩ ?_
        exact h2 _ (Rel_ans hR (by decide))
