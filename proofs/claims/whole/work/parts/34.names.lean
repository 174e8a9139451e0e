theorem wl_rsv : wlC (sBy 0) (lN 0) = rsvL := by decide +kernel
theorem wl_soi : wlC (sBy 11) (lN 0) = soiL := by decide +kernel
theorem D80 {d : Nat} {m : Mm} {Q : Option Value → Mm → Prop} {b : Nat} {E : Nat → Nat → Int32} {L : Nat → Nat → Int64} (hW : Wd m.2.2) (hB2 : LW m.2.2 b) (hdj : b + 19 ≤ 87 ∨ 87 + 6 ≤ b) {D : Nat → Nat → Int32} {K : Nat → Nat → Int64} {B : Nat → Int32} {n k i : Nat} (hd : 5 ≤ d) (hR : RS B n k i D K) (hQ : Q (some (.int (bi (nmP B n i)))) (pp m 87 6 D K b 19 E L)) : Cc d 0 0 80 [.ref 87] (pp m 87 6 D K b 19 E L) Q := by
  obtain ⟨hT, hi, hn, h05, h07⟩ := hR
  have tB := hT.1
  have t2 := hT.2.1
  have t5 := hT.2.2.1
  have t4 := hT.2.2.2.1
  have t3 := hT.2.2.2.2.1
  have tw := hT.2.2.2.2.2.1
  have td := hT.2.2.2.2.2.2.1
  have ts := hT.2.2.2.2.2.2.2.1
  have t1 := hT.2.2.2.2.2.2.2.2
  refine ent (n := 50) z80 (by decide) rfl (by decide) (Nat.le_of_ble_eq_true rfl) (fun sc => ?_)
  refine And.intro (Wdo_87 hW) (Exists.intro _ (And.intro (Wdr_87_0 hW) ?_))
  refine And.intro (Wdo_88 hW) ?_
  rw [pp_1 (x := 87) (f := 1) (by decide)]
  refine And.intro (fun cz4 => ?_) (fun cz4 => ?_)
  · -- 4 taken: ¬ D 1 4 = nI 2
    refine And.intro ⟨rfl, Or.inl rfl, Nat.le_refl _, Nat.le_refl _⟩ ?_
    rw [bi_f (fun z => cz4 ((ki_q t4 (by decide)).mpr z.1))] at hQ
    exact hQ
  · -- 4 not: D 1 4 = nI 2
    refine And.intro (Wdo_87 hW) (Exists.intro _ (And.intro (Wdr_87_0 hW) ?_))
    refine And.intro ⟨by omega, Nat.le_of_ble_eq_true rfl, Nat.le_refl _, Nat.le_refl _⟩ (And.intro (Wdo_88 hW) ?_)
    refine D110 (s0 := 0) hW hB2 hdj (by omega) (by decide) (by decide) ?_ ?_
    · -- a way behind the call
      intro h2
      refine And.intro (fun cz10 => ?_) (fun cz10 => ?_)
      · -- 10 taken: ¬ -nI 1 = -nI 1
        refine And.intro ⟨rfl, Or.inl rfl, Nat.le_refl _, Nat.le_refl _⟩ ?_
        exact absurd cz4 h2
      · -- 10 not: -nI 1 = -nI 1
        refine And.intro ⟨rfl, Or.inr rfl, Nat.le_refl _, Nat.le_refl _⟩ ?_
        exact absurd cz4 h2
    · -- a way behind the call
      intro h2
      refine And.intro (fun cz10 => ?_) (fun cz10 => ?_)
      · -- 10 taken: ¬ ixF (K 1 8) (wlC (sBy 0) (lN 0)) (nI 0) = -nI 1
        refine And.intro ⟨rfl, Or.inl rfl, Nat.le_refl _, Nat.le_refl _⟩ ?_
        have kk2 := (ki_q (c := 2) t4 (by decide)).mp cz4
        rw [wl_rsv, (tw kk2).2] at cz10
        rw [bi_f (fun z => cz10 z.2)] at hQ
        exact hQ
      · -- 10 not: ixF (K 1 8) (wlC (sBy 0) (lN 0)) (nI 0) = -nI 1
        refine And.intro ⟨rfl, Or.inr rfl, Nat.le_refl _, Nat.le_refl _⟩ ?_
        have kk2 := (ki_q (c := 2) t4 (by decide)).mp cz4
        rw [wl_rsv, (tw kk2).2] at cz10
        rw [bi_t ⟨kk2, cz10⟩] at hQ
        exact hQ
theorem lq81 {sc : Nat × (Nat → Int32)} {d : Nat} {m : Mm} {Q : Option Value → Mm → Prop} {b : Nat} {E : Nat → Nat → Int32} {L : Nat → Nat → Int64} (hW : Wd m.2.2) (hB2 : LW m.2.2 b) (hdj : b + 19 ≤ 87 ∨ 87 + 6 ≤ b) {D : Nat → Nat → Int32} {K : Nat → Nat → Int64} {k : Nat} {c : Int64} (h05 : D 0 5 = nI k) (hk : k ≤ 24) (hQ : fdQ (K 3) c k < k → Q (some (.int (nI (fdQ (K 3) c k)))) (pp m 87 6 D K b 19 E L)) (hN : ¬ fdQ (K 3) c k < k → Q (some (.int (-nI 1))) (pp m 87 6 D K b 19 E L))  : ∀ (j j9 : Nat), j9 ≤ k → k + 1 ≤ j9 + j → (∀ j1, j1 < j9 → ¬ K 3 j1 = c) → Jj sc d 0 0 (mth 81) (pg P81 2).1 [some (.ref 87), some (.long c), none, some (.int (nI j9))] [] (pp m 87 6 D K b 19 E L) 0 0 Q := by
  intro j
  induction j with
  | zero => intro j9 h1 h2 hall; omega
  | succ j ih =>
    intro j9 h1 h2 hall
    refine J_w z81 (i := 2) (by decide) 58 ?_
    refine And.intro (Wdo_87 hW) ?_
    rw [pp_10 (x := 87) (by decide)]
    rw [h05]
    refine And.intro (fun cz5 => ?_) (fun cz5 => ?_)
    · -- 5 taken: nI k ≤ nI j9
      have kz5 : k ≤ j9 := kle (a := k) (b := j9) rfl rfl (by omega) (by omega) cz5
      refine And.intro ⟨rfl, trivial, Nat.le_refl _, Nat.le_refl _⟩ ?_
      rw [show j9 = k by omega] at hall
      exact hN (by rw [fdQ_u (k := k) hall (fun h => absurd h (by omega)) (Nat.le_refl _)]; omega)
    · -- 5 not: ¬ nI k ≤ nI j9
      have kz5 : j9 < k := knle (a := k) (b := j9) rfl rfl (by omega) (by omega) cz5
      refine And.intro (Wdo_87 hW) (Exists.intro _ (And.intro (Wdr_87_1 hW) ?_))
      refine And.intro (Wdi_90 hW (vi rfl (by omega))) ?_
      rw [nI_clamp (show j9 < 2 ^ 31 by omega)]
      rw [pp_J1 (x := 87) (f := 3) (by decide)]
      refine And.intro (fun cz12 => ?_) (fun cz12 => ?_)
      · -- 12 taken: ¬ lg_cmp (K 3 j9) c = 0
        show Jj sc d 0 0 (mth 81) (pg P81 2).1 [some (.ref 87), some (.long c), none, some (.int (nI j9 + nI 1))] [] (pp m 87 6 D K b 19 E L) 0 0 Q
        rw [show nI j9 + nI 1 = nI (j9 + 1) from by simp only [nI_add, pk_mul]]
        have hall2 : ∀ j1, j1 < j9 + 1 → ¬ K 3 j1 = c := by
          intro v9 h9
          rcases Nat.lt_or_ge v9 j9 with q9 | q9
          · exact hall v9 q9
          · have ez9 : v9 = j9 := by omega
            rw [ez9]
            exact (fun z => cz12 (lg0.mpr z))
        exact ih (j9 + 1) (by omega) (by omega) hall2
      · -- 12 not: lg_cmp (K 3 j9) c = 0
        refine And.intro ⟨rfl, trivial, Nat.le_refl _, Nat.le_refl _⟩ ?_
        have ez9 := fdQ_u (k := k) hall (fun _ => lg0.mp cz12) (by omega)
        rw [ez9] at hQ
        exact hQ (by omega)
theorem D81 {d : Nat} {m : Mm} {Q : Option Value → Mm → Prop} {b : Nat} {E : Nat → Nat → Int32} {L : Nat → Nat → Int64} (hW : Wd m.2.2) (hB2 : LW m.2.2 b) (hdj : b + 19 ≤ 87 ∨ 87 + 6 ≤ b) {D : Nat → Nat → Int32} {K : Nat → Nat → Int64} {k : Nat} {c : Int64} (h05 : D 0 5 = nI k) (hk : k ≤ 24) (hQ : fdQ (K 3) c k < k → Q (some (.int (nI (fdQ (K 3) c k)))) (pp m 87 6 D K b 19 E L)) (hN : ¬ fdQ (K 3) c k < k → Q (some (.int (-nI 1))) (pp m 87 6 D K b 19 E L))  : Cc d 0 0 81 [.ref 87, .long c] (pp m 87 6 D K b 19 E L) Q := by
  refine ent (n := 58) z81 (by decide) rfl (by decide) (Nat.le_of_ble_eq_true rfl) (fun sc => ?_)
  show Jj sc d 0 0 (mth 81) (pg P81 2).1 [some (.ref 87), some (.long c), none, some (.int (nI 0))] [] (pp m 87 6 D K b 19 E L) 0 0 Q
  exact lq81 hW hB2 hdj h05 hk hQ hN (k + 1) 0 (Nat.zero_le _) (by omega) (fun _ h => absurd h (by omega))
theorem D83 {d : Nat} {m : Mm} {Q : Option Value → Mm → Prop} {b : Nat} {E : Nat → Nat → Int32} {L : Nat → Nat → Int64} (hW : Wd m.2.2) (hB2 : LW m.2.2 b) (hdj : b + 19 ≤ 87 ∨ 87 + 6 ≤ b) {D : Nat → Nat → Int32} {K : Nat → Nat → Int64} {so : Int32} {B : Nat → Int32} {n k i : Nat} (hd : 8 ≤ d) (hR : RS B n k i D K) (hk : k ≤ 24) (hF : ∀ D1 K1 f p, pUse (K 3) (D 4) (D 5) k so B n i = .inl (f, p) → D1 0 7 = nI f → D1 0 8 = nI p → D1 1 1 = nI 0 → Q (some (.int (nI 0))) (pp m 87 6 D1 K1 b 19 E L)) (hO : ∀ D1 K1 x j, pUse (K 3) (D 4) (D 5) k so B n i = .inr (x, j) → SU B n k i j D K D1 K1 → D1 0 6 = x → Q (some (.int (nI 1))) (pp m 87 6 D1 K1 b 19 E L)) : Cc d 0 0 83 [.ref 87, .int so] (pp m 87 6 D K b 19 E L) Q := by
  obtain ⟨hT, hi, hn, h05, h07⟩ := hR
  have tB := hT.1
  have t2 := hT.2.1
  have t5 := hT.2.2.1
  have t4 := hT.2.2.2.1
  have t3 := hT.2.2.2.2.1
  have tw := hT.2.2.2.2.2.1
  have td := hT.2.2.2.2.2.2.1
  have ts := hT.2.2.2.2.2.2.2.1
  have t1 := hT.2.2.2.2.2.2.2.2
  refine ent (n := 94) z83 (by decide) rfl (by decide) (Nat.le_of_ble_eq_true rfl) (fun sc => ?_)
  refine And.intro ⟨by omega, Nat.le_of_ble_eq_true rfl, Nat.le_refl _, Nat.le_refl _⟩ (And.intro (Wdo_87 hW) ?_)
  refine D80 hW hB2 hdj (by omega) ⟨hT, hi, hn, h05, h07⟩ ?_
  refine And.intro (fun cz2 => ?_) (fun cz2 => ?_)
  · -- 2 taken: ¬ bi (nmP B n i) = 0
    refine And.intro (Wdo_87 hW) (Exists.intro _ (And.intro (Wdr_87_0 hW) ?_))
    refine And.intro (Wdo_88 hW) ?_
    rw [pp_J1 (x := 87) (f := 1) (by decide)]
    refine And.intro ⟨by omega, Nat.le_of_ble_eq_true rfl, Nat.le_refl _, Nat.le_refl _⟩ (And.intro (Wdo_87 hW) ?_)
    refine D81 (k := k) hW hB2 hdj h05 (by omega) ?_ ?_
    · -- a way behind the call
      intro hf
      refine And.intro (fun cz15 => ?_) (fun cz15 => ?_)
      · -- 15 taken: nI ((fdQ (K 3) (K 1 8) k)) = -nI 1
        exact absurd cz15 (nI_neg1 (by omega))
      · -- 15 not: ¬ nI ((fdQ (K 3) (K 1 8) k)) = -nI 1
        refine And.intro (Wdo_87 hW) (Exists.intro _ (And.intro (Wdr_87_2 hW) ?_))
        refine And.intro (Wdi_91 hW (vi rfl (by omega))) ?_
        rw [nI_clamp (show (fdQ (K 3) (K 1 8) k) < 2 ^ 31 by omega)]
        rw [pp_1 (x := 87) (f := 4) (by decide)]
        refine And.intro (fun cz21 => ?_) (fun cz21 => ?_)
        · -- 21 taken: D 4 ((fdQ (K 3) (K 1 8) k)) = so
          refine And.intro (Wdo_87 hW) (Exists.intro _ (And.intro (Wdr_87_3 hW) ?_))
          refine And.intro (Wdi_92 hW (vi rfl (by omega))) ?_
          rw [nI_clamp (show (fdQ (K 3) (K 1 8) k) < 2 ^ 31 by omega)]
          rw [pp_1 (x := 87) (f := 5) (by decide)]
          refine And.intro (Wdo_87 hW) ?_
          rw [pp_u10 (x := 87) (by decide)]
          refine And.intro (Wdo_87 hW) (Exists.intro _ (And.intro (Wdr_87_0 hW) ?_))
          refine And.intro ⟨by omega, Nat.le_of_ble_eq_true rfl, Nat.le_refl _, Nat.le_refl _⟩ (And.intro (Wdo_88 hW) ?_)
          refine D108 (B := B) (n := n) (i := nxF B n i) (D0 := (ud D 0 6 (D 5 ((fdQ (K 3) (K 1 8) k))))) hW hB2 hdj (by omega) hn (nxF_le hi) t2 tB t1 t3 (fun D1 K1 uT u9 u1 uD uK => ?_)
          refine And.intro ⟨rfl, Or.inr rfl, Nat.le_refl _, Nat.le_refl _⟩ ?_
          have hm := bi_ne0.mp cz2
          rw [(tw hm.1).2] at hf
          rw [(tw hm.1).2] at cz21
          exact hO _ _ _ _ (by unfold pUse; rw [if_pos hm, if_pos ⟨hf, cz21⟩]) ⟨⟨uT, nxF_le hi, hn, (congrFun (uD 0 (by decide)) 5).trans h05, (congrFun (uD 0 (by decide)) 7).trans h07⟩, uD 4 (by decide), uD 5 (by decide), uK 3 (by decide), u9.trans t5⟩ ((congrFun (uD 0 (by decide)) 6).trans (by show D 5 (fdQ (K 3) (K 1 8) k) = _; rw [(tw hm.1).2]))
        · -- 21 not: ¬ D 4 ((fdQ (K 3) (K 1 8) k)) = so
          refine And.intro ⟨by omega, Nat.le_of_ble_eq_true rfl, Nat.le_refl _, Nat.le_refl _⟩ (And.intro (Wdo_87 hW) ?_)
          refine D84 hW hB2 hdj ?_
          refine And.intro ⟨rfl, Or.inl rfl, Nat.le_refl _, Nat.le_refl _⟩ ?_
          have hm := bi_ne0.mp cz2
          rw [(tw hm.1).2] at hf
          rw [(tw hm.1).2] at cz21
          exact hF _ _ 2 (plF B n i) (by unfold pUse; rw [if_pos hm, if_neg (fun z => cz21 z.2)]) rfl t5 t1
    · -- a way behind the call
      intro hf
      refine And.intro (fun cz15 => ?_) (fun cz15 => ?_)
      · -- 15 taken: -nI 1 = -nI 1
        refine And.intro ⟨by omega, Nat.le_of_ble_eq_true rfl, Nat.le_refl _, Nat.le_refl _⟩ (And.intro (Wdo_87 hW) ?_)
        refine D84 hW hB2 hdj ?_
        refine And.intro ⟨rfl, Or.inl rfl, Nat.le_refl _, Nat.le_refl _⟩ ?_
        have hm := bi_ne0.mp cz2
        rw [(tw hm.1).2] at hf
        exact hF _ _ 2 (plF B n i) (by unfold pUse; rw [if_pos hm, if_neg (fun z => hf z.1)]) rfl t5 t1
      · -- 15 not: ¬ -nI 1 = -nI 1
        exact absurd rfl cz15
  · -- 2 not: bi (nmP B n i) = 0
    refine And.intro ⟨by omega, Nat.le_of_ble_eq_true rfl, Nat.le_refl _, Nat.le_refl _⟩ (And.intro (Wdo_87 hW) ?_)
    refine D84 hW hB2 hdj ?_
    refine And.intro ⟨rfl, Or.inl rfl, Nat.le_refl _, Nat.le_refl _⟩ ?_
    exact hF _ _ 1 (plF B n i) (if_neg (bi_eq0.mp cz2)) rfl t5 t1
theorem D82 {d : Nat} {m : Mm} {Q : Option Value → Mm → Prop} {b : Nat} {E : Nat → Nat → Int32} {L : Nat → Nat → Int64} (hW : Wd m.2.2) (hB2 : LW m.2.2 b) (hdj : b + 19 ≤ 87 ∨ 87 + 6 ≤ b) {D : Nat → Nat → Int32} {K : Nat → Nat → Int64} {so : Nat} (hso : so < 13) (hb4 : va_rf (mR m 87 4) = .ref b) {B : Nat → Int32} {n k i : Nat} (hd : 8 ≤ d) (hR : RS B n k i D K) (hk : k < 24) (hF : ∀ D1 K1 f p, pTell (K 3) k B n i = .inl (f, p) → D1 0 7 = nI f → D1 0 8 = nI p → D1 1 1 = nI 0 → Q (some (.int (nI 0))) (pp m 87 6 D1 K1 b 19 E L)) (hO : ∀ D1 K1 j, pTell (K 3) k B n i = .inr j → RS B n (k + 1) j D1 K1 → K1 3 = vp_updL (K 3) k (coT B n i) → D1 4 = upd (D 4) k (nI so) → D1 5 = upd (D 5) k (E 1 so) → D1 1 9 = nI (plF B n i) → Q (some (.int (nI 1))) (pp m 87 6 D1 K1 b 19 E L)) : Cc d 0 0 82 [.ref 87, .int (nI so)] (pp m 87 6 D K b 19 E L) Q := by
  obtain ⟨hT, hi, hn, h05, h07⟩ := hR
  have tB := hT.1
  have t2 := hT.2.1
  have t5 := hT.2.2.1
  have t4 := hT.2.2.2.1
  have t3 := hT.2.2.2.2.1
  have tw := hT.2.2.2.2.2.1
  have td := hT.2.2.2.2.2.2.1
  have ts := hT.2.2.2.2.2.2.2.1
  have t1 := hT.2.2.2.2.2.2.2.2
  refine ent (n := 142) z82 (by decide) rfl (by decide) (Nat.le_of_ble_eq_true rfl) (fun sc => ?_)
  refine And.intro ⟨by omega, Nat.le_of_ble_eq_true rfl, Nat.le_refl _, Nat.le_refl _⟩ (And.intro (Wdo_87 hW) ?_)
  refine D80 hW hB2 hdj (by omega) ⟨hT, hi, hn, h05, h07⟩ ?_
  refine And.intro (fun cz2 => ?_) (fun cz2 => ?_)
  · -- 2 taken: ¬ bi (nmP B n i) = 0
    refine And.intro (Wdo_87 hW) (Exists.intro _ (And.intro (Wdr_87_0 hW) ?_))
    refine And.intro (Wdo_88 hW) ?_
    rw [pp_J1 (x := 87) (f := 1) (by decide)]
    refine And.intro ⟨by omega, Nat.le_of_ble_eq_true rfl, Nat.le_refl _, Nat.le_refl _⟩ (And.intro (Wdo_87 hW) ?_)
    refine D81 (k := k) hW hB2 hdj h05 (by omega) ?_ ?_
    · -- a way behind the call
      intro hf
      refine And.intro (fun cz13 => ?_) (fun cz13 => ?_)
      · -- 13 taken: nI ((fdQ (K 3) (K 1 8) k)) = -nI 1
        exact absurd cz13 (nI_neg1 (by omega))
      · -- 13 not: ¬ nI ((fdQ (K 3) (K 1 8) k)) = -nI 1
        refine And.intro ⟨by omega, Nat.le_of_ble_eq_true rfl, Nat.le_refl _, Nat.le_refl _⟩ (And.intro (Wdo_87 hW) ?_)
        refine D84 hW hB2 hdj ?_
        refine And.intro ⟨rfl, Or.inl rfl, Nat.le_refl _, Nat.le_refl _⟩ ?_
        have hm := bi_ne0.mp cz2
        rw [(tw hm.1).2] at hf
        exact hF _ _ 3 (plF B n i) (by unfold pTell; rw [if_pos hm, if_pos hf]) rfl t5 t1
    · -- a way behind the call
      intro hf
      refine And.intro (fun cz13 => ?_) (fun cz13 => ?_)
      · -- 13 taken: -nI 1 = -nI 1
        refine And.intro (Wdo_87 hW) ?_
        rw [pp_10 (x := 87) (by decide)]
        rw [h05]
        refine And.intro (fun cz21 => ?_) (fun cz21 => ?_)
        · -- 21 taken: nI k < nI 24
          have kz21 : k < 24 := klt (a := k) (b := 24) rfl rfl (by omega) (by omega) cz21
          refine And.intro (Wdo_87 hW) (Exists.intro _ (And.intro (Wdr_87_1 hW) ?_))
          refine And.intro (Wdo_87 hW) ?_
          rw [pp_10 (x := 87) (by decide)]
          rw [h05]
          refine And.intro (Wdo_87 hW) (Exists.intro _ (And.intro (Wdr_87_0 hW) ?_))
          refine And.intro (Wdo_88 hW) ?_
          rw [pp_J1 (x := 87) (f := 1) (by decide)]
          refine And.intro (Wdi_90 hW (vi rfl (by omega))) ?_
          rw [nI_clamp (show k < 2 ^ 31 by omega)]
          rw [pp_v1 (x := 87) (f := 3) (by decide)]
          refine And.intro (Wdo_87 hW) (Exists.intro _ (And.intro (Wdr_87_2 hW) ?_))
          refine And.intro (Wdo_87 hW) ?_
          rw [pp_10 (x := 87) (by decide)]
          rw [h05]
          refine And.intro (Wdi_91 hW (vi rfl (by omega))) ?_
          rw [nI_clamp (show k < 2 ^ 31 by omega)]
          rw [pp_u1 (x := 87) (f := 4) (by decide)]
          refine And.intro (Wdo_87 hW) (Exists.intro _ (And.intro (Wdr_87_3 hW) ?_))
          refine And.intro (Wdo_87 hW) ?_
          rw [pp_10 (x := 87) (by decide)]
          rw [ud_ne (D := D) (f := 4) (g := 0) (by decide)]
          rw [h05]
          refine And.intro (Wdo_87 hW) (Exists.intro _ (And.intro hb4 ?_))
          refine And.intro (LWo_0 hB2) (Exists.intro _ (And.intro (LWr_0_4 hB2) ?_))
          refine And.intro (LWi_1 hB2 (vi rfl (by omega))) ?_
          rw [nI_clamp (show so < 2 ^ 31 by omega)]
          rw [pp_2 (y := b) (f := 1) (by omega) (by decide)]
          refine And.intro (Wdi_92 hW (vi rfl (by omega))) ?_
          rw [nI_clamp (show k < 2 ^ 31 by omega)]
          rw [pp_u1 (x := 87) (f := 5) (by decide)]
          refine And.intro rfl ?_
          refine And.intro (Wdo_87 hW) ?_
          rw [pp_10 (x := 87) (by decide)]
          rw [ud_ne (D := (ud D 4 k (nI so))) (f := 5) (g := 0) (by decide)]
          rw [ud_ne (D := D) (f := 4) (g := 0) (by decide)]
          rw [h05]
          refine And.intro (Wdo_87 hW) ?_
          rw [pp_u10 (x := 87) (by decide)]
          refine And.intro (Wdo_87 hW) (Exists.intro _ (And.intro (Wdr_87_0 hW) ?_))
          refine And.intro ⟨by omega, Nat.le_of_ble_eq_true rfl, Nat.le_refl _, Nat.le_refl _⟩ (And.intro (Wdo_88 hW) ?_)
          refine D108 (B := B) (n := n) (i := nxF B n i) (D0 := (ud (ud (ud D 4 k (nI so)) 5 k (E 1 so)) 0 5 (nI k + nI 1))) hW hB2 hdj (by omega) hn (nxF_le hi) t2 tB t1 t3 (fun D1 K1 uT u9 u1 uD uK => ?_)
          refine And.intro ⟨rfl, Or.inr rfl, Nat.le_refl _, Nat.le_refl _⟩ ?_
          have hm := bi_ne0.mp cz2
          rw [(tw hm.1).2] at hf
          refine hO _ _ _ (by unfold pTell; rw [if_pos hm, if_neg hf]) ⟨uT, nxF_le hi, hn, (congrFun (uD 0 (by decide)) 5).trans (nI_add k 1), (congrFun (uD 0 (by decide)) 7).trans h07⟩ ?_ ?_ ?_ (u9.trans t5)
          · rw [uK 3 (by decide), ← (tw hm.1).2]; rfl
          · exact uD 4 (by decide)
          · exact uD 5 (by decide)
        · -- 21 not: ¬ nI k < nI 24
          have kz21 : 24 ≤ k := knlt (a := k) (b := 24) rfl rfl (by omega) (by omega) cz21
          refine And.intro ⟨by omega, Nat.le_of_ble_eq_true rfl, Nat.le_refl _, Nat.le_refl _⟩ (And.intro (Wdo_87 hW) ?_)
          refine D84 hW hB2 hdj ?_
          refine And.intro ⟨rfl, Or.inl rfl, Nat.le_refl _, Nat.le_refl _⟩ ?_
          omega
      · -- 13 not: ¬ -nI 1 = -nI 1
        exact absurd rfl cz13
  · -- 2 not: bi (nmP B n i) = 0
    refine And.intro ⟨by omega, Nat.le_of_ble_eq_true rfl, Nat.le_refl _, Nat.le_refl _⟩ (And.intro (Wdo_87 hW) ?_)
    refine D84 hW hB2 hdj ?_
    refine And.intro ⟨rfl, Or.inl rfl, Nat.le_refl _, Nat.le_refl _⟩ ?_
    exact hF _ _ 1 (plF B n i) (if_neg (bi_eq0.mp cz2)) rfl t5 t1
theorem D75 {d : Nat} {m : Mm} {Q : Option Value → Mm → Prop} {b : Nat} {E : Nat → Nat → Int32} {L : Nat → Nat → Int64} (hW : Wd m.2.2) (hB2 : LW m.2.2 b) (hdj : b + 19 ≤ 87 ∨ 87 + 6 ≤ b) {D : Nat → Nat → Int32} {K : Nat → Nat → Int64} {y : Int32} {B : Nat → Int32} {n k i : Nat} (hd : 8 ≤ d) (hR : RS B n k i D K) (hF : ∀ D1 K1 f p, pGround y B n i = .inl (f, p) → D1 0 7 = nI f → D1 0 8 = nI p → D1 1 1 = nI 0 → Q (some (.int (nI 0))) (pp m 87 6 D1 K1 b 19 E L)) (hO : ∀ D1 K1 x j, pGround y B n i = .inr (x, j) → SU B n k i j D K D1 K1 → D1 0 6 = x → Q (some (.int (nI 1))) (pp m 87 6 D1 K1 b 19 E L)) : Cc d 0 0 75 [.ref 87, .int y] (pp m 87 6 D K b 19 E L) Q := by
  obtain ⟨hT, hi, hn, h05, h07⟩ := hR
  have tB := hT.1
  have t2 := hT.2.1
  have t5 := hT.2.2.1
  have t4 := hT.2.2.2.1
  have t3 := hT.2.2.2.2.1
  have tw := hT.2.2.2.2.2.1
  have td := hT.2.2.2.2.2.2.1
  have ts := hT.2.2.2.2.2.2.2.1
  have t1 := hT.2.2.2.2.2.2.2.2
  refine ent (n := 98) z75 (by decide) rfl (by decide) (Nat.le_of_ble_eq_true rfl) (fun sc => ?_)
  refine And.intro (Wdo_87 hW) (Exists.intro _ (And.intro (Wdr_87_0 hW) ?_))
  refine And.intro (Wdo_88 hW) ?_
  rw [pp_1 (x := 87) (f := 1) (by decide)]
  refine And.intro (fun cz4 => ?_) (fun cz4 => ?_)
  · -- 4 taken: D 1 4 = nI 2
    refine And.intro (Wdo_87 hW) (Exists.intro _ (And.intro (Wdr_87_0 hW) ?_))
    refine And.intro ⟨by omega, Nat.le_of_ble_eq_true rfl, Nat.le_refl _, Nat.le_refl _⟩ (And.intro (Wdo_88 hW) ?_)
    refine D110 (s0 := 11) hW hB2 hdj (by omega) (by decide) (by decide) ?_ ?_
    · -- a way behind the call
      intro h2
      refine And.intro (fun cz16 => ?_) (fun cz16 => ?_)
      · -- 16 taken: -nI 1 = -nI 1
        refine And.intro ⟨by omega, Nat.le_of_ble_eq_true rfl, Nat.le_refl _, Nat.le_refl _⟩ (And.intro (Wdo_87 hW) ?_)
        refine D84 hW hB2 hdj ?_
        refine And.intro ⟨rfl, Or.inl rfl, Nat.le_refl _, Nat.le_refl _⟩ ?_
        exact absurd cz4 h2
      · -- 16 not: ¬ -nI 1 = -nI 1
        refine And.intro (fun cz19 => ?_) (fun cz19 => ?_)
        · -- 19 taken: ¬ -nI 1 = nI 5
          refine And.intro (fun cz29 => ?_) (fun cz29 => ?_)
          · -- 29 taken: ¬ -nI 1 = nI 5
            refine And.intro (Wdo_87 hW) ?_
            rw [pp_u10 (x := 87) (by decide)]
            refine And.intro (Wdo_87 hW) (Exists.intro _ (And.intro (Wdr_87_0 hW) ?_))
            refine And.intro ⟨by omega, Nat.le_of_ble_eq_true rfl, Nat.le_refl _, Nat.le_refl _⟩ (And.intro (Wdo_88 hW) ?_)
            refine D108 (B := B) (n := n) (i := nxF B n i) (D0 := (ud D 0 6 (-nI 1))) hW hB2 hdj (by omega) hn (nxF_le hi) t2 tB t1 t3 (fun D1 K1 uT u9 u1 uD uK => ?_)
            refine And.intro ⟨rfl, Or.inr rfl, Nat.le_refl _, Nat.le_refl _⟩ ?_
            exact absurd cz4 h2
          · -- 29 not: -nI 1 = nI 5
            refine And.intro (Wdo_87 hW) ?_
            rw [pp_u10 (x := 87) (by decide)]
            refine And.intro (Wdo_87 hW) (Exists.intro _ (And.intro (Wdr_87_0 hW) ?_))
            refine And.intro ⟨by omega, Nat.le_of_ble_eq_true rfl, Nat.le_refl _, Nat.le_refl _⟩ (And.intro (Wdo_88 hW) ?_)
            refine D108 (B := B) (n := n) (i := nxF B n i) (D0 := (ud D 0 6 (-nI 2))) hW hB2 hdj (by omega) hn (nxF_le hi) t2 tB t1 t3 (fun D1 K1 uT u9 u1 uD uK => ?_)
            refine And.intro ⟨rfl, Or.inr rfl, Nat.le_refl _, Nat.le_refl _⟩ ?_
            exact absurd cz4 h2
        · -- 19 not: -nI 1 = nI 5
          refine And.intro (fun cz21 => ?_) (fun cz21 => ?_)
          · -- 21 taken: ¬ y = 0
            refine And.intro (fun cz29 => ?_) (fun cz29 => ?_)
            · -- 29 taken: ¬ -nI 1 = nI 5
              refine And.intro (Wdo_87 hW) ?_
              rw [pp_u10 (x := 87) (by decide)]
              refine And.intro (Wdo_87 hW) (Exists.intro _ (And.intro (Wdr_87_0 hW) ?_))
              refine And.intro ⟨by omega, Nat.le_of_ble_eq_true rfl, Nat.le_refl _, Nat.le_refl _⟩ (And.intro (Wdo_88 hW) ?_)
              refine D108 (B := B) (n := n) (i := nxF B n i) (D0 := (ud D 0 6 (-nI 1))) hW hB2 hdj (by omega) hn (nxF_le hi) t2 tB t1 t3 (fun D1 K1 uT u9 u1 uD uK => ?_)
              refine And.intro ⟨rfl, Or.inr rfl, Nat.le_refl _, Nat.le_refl _⟩ ?_
              exact absurd cz4 h2
            · -- 29 not: -nI 1 = nI 5
              refine And.intro (Wdo_87 hW) ?_
              rw [pp_u10 (x := 87) (by decide)]
              refine And.intro (Wdo_87 hW) (Exists.intro _ (And.intro (Wdr_87_0 hW) ?_))
              refine And.intro ⟨by omega, Nat.le_of_ble_eq_true rfl, Nat.le_refl _, Nat.le_refl _⟩ (And.intro (Wdo_88 hW) ?_)
              refine D108 (B := B) (n := n) (i := nxF B n i) (D0 := (ud D 0 6 (-nI 2))) hW hB2 hdj (by omega) hn (nxF_le hi) t2 tB t1 t3 (fun D1 K1 uT u9 u1 uD uK => ?_)
              refine And.intro ⟨rfl, Or.inr rfl, Nat.le_refl _, Nat.le_refl _⟩ ?_
              exact absurd cz4 h2
          · -- 21 not: y = 0
            refine And.intro ⟨by omega, Nat.le_of_ble_eq_true rfl, Nat.le_refl _, Nat.le_refl _⟩ (And.intro (Wdo_87 hW) ?_)
            refine D84 hW hB2 hdj ?_
            refine And.intro ⟨rfl, Or.inl rfl, Nat.le_refl _, Nat.le_refl _⟩ ?_
            exact absurd cz4 h2
    · -- a way behind the call
      intro h2
      refine And.intro (fun cz16 => ?_) (fun cz16 => ?_)
      · -- 16 taken: ixF (K 1 8) (wlC (sBy 11) (lN 0)) (nI 0) = -nI 1
        refine And.intro ⟨by omega, Nat.le_of_ble_eq_true rfl, Nat.le_refl _, Nat.le_refl _⟩ (And.intro (Wdo_87 hW) ?_)
        refine D84 hW hB2 hdj ?_
        refine And.intro ⟨rfl, Or.inl rfl, Nat.le_refl _, Nat.le_refl _⟩ ?_
        have kk2 := (ki_q (c := 2) t4 (by decide)).mp cz4
        rw [wl_soi, (tw kk2).2] at cz16
        exact hF _ _ 7 (plF B n i) (by unfold pGround; rw [if_pos kk2, if_pos (Or.inl cz16)]) rfl t5 t1
      · -- 16 not: ¬ ixF (K 1 8) (wlC (sBy 11) (lN 0)) (nI 0) = -nI 1
        refine And.intro (fun cz19 => ?_) (fun cz19 => ?_)
        · -- 19 taken: ¬ ixF (K 1 8) (wlC (sBy 11) (lN 0)) (nI 0) = nI 5
          refine And.intro (fun cz29 => ?_) (fun cz29 => ?_)
          · -- 29 taken: ¬ ixF (K 1 8) (wlC (sBy 11) (lN 0)) (nI 0) = nI 5
            refine And.intro (Wdo_87 hW) ?_
            rw [pp_u10 (x := 87) (by decide)]
            refine And.intro (Wdo_87 hW) (Exists.intro _ (And.intro (Wdr_87_0 hW) ?_))
            refine And.intro ⟨by omega, Nat.le_of_ble_eq_true rfl, Nat.le_refl _, Nat.le_refl _⟩ (And.intro (Wdo_88 hW) ?_)
            refine D108 (B := B) (n := n) (i := nxF B n i) (D0 := (ud D 0 6 (ixF (K 1 8) (wlC (sBy 11) (lN 0)) (nI 0)))) hW hB2 hdj (by omega) hn (nxF_le hi) t2 tB t1 t3 (fun D1 K1 uT u9 u1 uD uK => ?_)
            refine And.intro ⟨rfl, Or.inr rfl, Nat.le_refl _, Nat.le_refl _⟩ ?_
            have kk2 := (ki_q (c := 2) t4 (by decide)).mp cz4
            rw [wl_soi, (tw kk2).2] at cz16
            rw [wl_soi, (tw kk2).2] at cz19
            rw [wl_soi, (tw kk2).2] at cz29
            exact hO _ _ _ _ (by unfold pGround; rw [if_pos kk2, if_neg (fun z => z.elim cz16 (fun q => cz19 q.1))]) ⟨⟨uT, nxF_le hi, hn, (congrFun (uD 0 (by decide)) 5).trans h05, (congrFun (uD 0 (by decide)) 7).trans h07⟩, uD 4 (by decide), uD 5 (by decide), uK 3 (by decide), u9.trans t5⟩ ((congrFun (uD 0 (by decide)) 6).trans (by rw [if_neg cz29]; show ixF (K 1 8) _ _ = _; rw [wl_soi, (tw kk2).2]))
          · -- 29 not: ixF (K 1 8) (wlC (sBy 11) (lN 0)) (nI 0) = nI 5
            refine And.intro (Wdo_87 hW) ?_
            rw [pp_u10 (x := 87) (by decide)]
            refine And.intro (Wdo_87 hW) (Exists.intro _ (And.intro (Wdr_87_0 hW) ?_))
            refine And.intro ⟨by omega, Nat.le_of_ble_eq_true rfl, Nat.le_refl _, Nat.le_refl _⟩ (And.intro (Wdo_88 hW) ?_)
            refine D108 (B := B) (n := n) (i := nxF B n i) (D0 := (ud D 0 6 (-nI 2))) hW hB2 hdj (by omega) hn (nxF_le hi) t2 tB t1 t3 (fun D1 K1 uT u9 u1 uD uK => ?_)
            refine And.intro ⟨rfl, Or.inr rfl, Nat.le_refl _, Nat.le_refl _⟩ ?_
            have kk2 := (ki_q (c := 2) t4 (by decide)).mp cz4
            rw [wl_soi, (tw kk2).2] at cz16
            rw [wl_soi, (tw kk2).2] at cz19
            rw [wl_soi, (tw kk2).2] at cz29
            exact absurd cz29 cz19
        · -- 19 not: ixF (K 1 8) (wlC (sBy 11) (lN 0)) (nI 0) = nI 5
          refine And.intro (fun cz21 => ?_) (fun cz21 => ?_)
          · -- 21 taken: ¬ y = 0
            refine And.intro (fun cz29 => ?_) (fun cz29 => ?_)
            · -- 29 taken: ¬ ixF (K 1 8) (wlC (sBy 11) (lN 0)) (nI 0) = nI 5
              refine And.intro (Wdo_87 hW) ?_
              rw [pp_u10 (x := 87) (by decide)]
              refine And.intro (Wdo_87 hW) (Exists.intro _ (And.intro (Wdr_87_0 hW) ?_))
              refine And.intro ⟨by omega, Nat.le_of_ble_eq_true rfl, Nat.le_refl _, Nat.le_refl _⟩ (And.intro (Wdo_88 hW) ?_)
              refine D108 (B := B) (n := n) (i := nxF B n i) (D0 := (ud D 0 6 (ixF (K 1 8) (wlC (sBy 11) (lN 0)) (nI 0)))) hW hB2 hdj (by omega) hn (nxF_le hi) t2 tB t1 t3 (fun D1 K1 uT u9 u1 uD uK => ?_)
              refine And.intro ⟨rfl, Or.inr rfl, Nat.le_refl _, Nat.le_refl _⟩ ?_
              have kk2 := (ki_q (c := 2) t4 (by decide)).mp cz4
              rw [wl_soi, (tw kk2).2] at cz16
              rw [wl_soi, (tw kk2).2] at cz19
              rw [wl_soi, (tw kk2).2] at cz29
              exact absurd cz19 cz29
            · -- 29 not: ixF (K 1 8) (wlC (sBy 11) (lN 0)) (nI 0) = nI 5
              refine And.intro (Wdo_87 hW) ?_
              rw [pp_u10 (x := 87) (by decide)]
              refine And.intro (Wdo_87 hW) (Exists.intro _ (And.intro (Wdr_87_0 hW) ?_))
              refine And.intro ⟨by omega, Nat.le_of_ble_eq_true rfl, Nat.le_refl _, Nat.le_refl _⟩ (And.intro (Wdo_88 hW) ?_)
              refine D108 (B := B) (n := n) (i := nxF B n i) (D0 := (ud D 0 6 (-nI 2))) hW hB2 hdj (by omega) hn (nxF_le hi) t2 tB t1 t3 (fun D1 K1 uT u9 u1 uD uK => ?_)
              refine And.intro ⟨rfl, Or.inr rfl, Nat.le_refl _, Nat.le_refl _⟩ ?_
              have kk2 := (ki_q (c := 2) t4 (by decide)).mp cz4
              rw [wl_soi, (tw kk2).2] at cz16
              rw [wl_soi, (tw kk2).2] at cz19
              rw [wl_soi, (tw kk2).2] at cz29
              exact hO _ _ _ _ (by unfold pGround; rw [if_pos kk2, if_neg (fun z => z.elim cz16 (fun q => cz21 q.2))]) ⟨⟨uT, nxF_le hi, hn, (congrFun (uD 0 (by decide)) 5).trans h05, (congrFun (uD 0 (by decide)) 7).trans h07⟩, uD 4 (by decide), uD 5 (by decide), uK 3 (by decide), u9.trans t5⟩ ((congrFun (uD 0 (by decide)) 6).trans (by rw [if_pos cz29]; rfl))
          · -- 21 not: y = 0
            refine And.intro ⟨by omega, Nat.le_of_ble_eq_true rfl, Nat.le_refl _, Nat.le_refl _⟩ (And.intro (Wdo_87 hW) ?_)
            refine D84 hW hB2 hdj ?_
            refine And.intro ⟨rfl, Or.inl rfl, Nat.le_refl _, Nat.le_refl _⟩ ?_
            have kk2 := (ki_q (c := 2) t4 (by decide)).mp cz4
            rw [wl_soi, (tw kk2).2] at cz16
            rw [wl_soi, (tw kk2).2] at cz19
            exact hF _ _ 7 (plF B n i) (by unfold pGround; rw [if_pos kk2, if_pos (Or.inr ⟨cz19, cz21⟩)]) rfl t5 t1
  · -- 4 not: ¬ D 1 4 = nI 2
    refine And.intro ⟨by omega, Nat.le_of_ble_eq_true rfl, Nat.le_refl _, Nat.le_refl _⟩ (And.intro (Wdo_87 hW) ?_)
    refine D84 hW hB2 hdj ?_
    refine And.intro ⟨rfl, Or.inl rfl, Nat.le_refl _, Nat.le_refl _⟩ ?_
    exact hF _ _ 1 (plF B n i) (if_neg (fun z => cz4 ((ki_q t4 (by decide)).mpr z))) rfl t5 t1
