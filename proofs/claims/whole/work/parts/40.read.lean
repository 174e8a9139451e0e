def fl (E : Nat → Nat → Int32) (f : Nat) (x : Int32) (n : Nat) : Nat → Nat → Int32 := va_up E f (fiF (E f) x n)
theorem fl_ne {E : Nat → Nat → Int32} {f g n : Nat} {x : Int32} (h : g ≠ f) : fl E f x n g = E g := if_neg h
theorem fl_eq {E : Nat → Nat → Int32} {f n : Nat} {x : Int32} : fl E f x n f = fiF (E f) x n := if_pos rfl
theorem fi_lt {f : Nat → Int32} {x : Int32} {n j : Nat} (h : j < n) : fiF f x n j = x := if_pos h
def csF (E : Nat → Nat → Int32) : Nat → Nat → Int32 := fl (fl (fl (ud (ud E 15 0 (nI 0)) 15 1 (nI 0)) 16 (nI 0) 6) 17 (-nI 2) 36) 18 (nI 0) 4
/-- a land without lines -/
def cleF (E : Nat → Nat → Int32) : Nat → Nat → Int32 := csF (fl (fl (fl (fl (fl (ud (ud (ud (ud E 0 0 (nI 0)) 0 1 (nI 0)) 0 2 (nI 0)) 0 3 (nI 0)) 1 (nI 0) 13) 2 (nI 0) 24) 7 (nI 0) 180) 8 (nI 0) 6) 10 (nI 0) 8)
theorem D98 {d : Nat} {m : Mm} {Q : Option Value → Mm → Prop} {b : Nat} {E : Nat → Nat → Int32} {L : Nat → Nat → Int64} (hW : Wd m.2.2) (hB2 : LW m.2.2 b) (hdj : b + 19 ≤ 87 ∨ 87 + 6 ≤ b) {D : Nat → Nat → Int32} {K : Nat → Nat → Int64} (hd : 1 ≤ d) (hQ : Q none (pp m 87 6 D K b 19 (csF E) L)) : Cc d 0 0 98 [.ref (b + 15)] (pp m 87 6 D K b 19 E L) Q := by
  refine ent (n := 58) z98 (by decide) rfl (by decide) (Nat.le_of_ble_eq_true rfl) (fun sc => ?_)
  refine And.intro (LWo_15 hB2) ?_
  rw [pp_u2 (y := b) (f := 15) (by omega) (by decide)]
  refine And.intro (LWo_15 hB2) ?_
  rw [pp_u2 (y := b) (f := 15) (by omega) (by decide)]
  refine And.intro (LWo_15 hB2) (Exists.intro _ (And.intro (LWr_15_2 hB2) ?_))
  refine And.intro ⟨by omega, Nat.le_of_ble_eq_true rfl, Nat.le_refl _, Nat.le_refl _⟩ ?_
  refine C347 (m := (pp m 87 6 D K b 19 (ud (ud E 15 0 (nI 0)) 15 1 (nI 0)) L)) (LWo_16 hB2) (LWn_16 hB2) (by decide) ?_
  rw [pp_2 (y := b) (f := 16) (by omega) (by decide)]
  rw [pp_r2 (y := b) (f := 16) (by omega) (by decide)]
  refine And.intro (LWo_15 hB2) (Exists.intro _ (And.intro (LWr_15_3 hB2) ?_))
  refine And.intro ⟨by omega, Nat.le_of_ble_eq_true rfl, Nat.le_refl _, Nat.le_refl _⟩ ?_
  refine C347 (m := (pp m 87 6 D K b 19 (fl (ud (ud E 15 0 (nI 0)) 15 1 (nI 0)) 16 (nI 0) 6) L)) (LWo_17 hB2) (LWn_17 hB2) (by decide) ?_
  rw [pp_2 (y := b) (f := 17) (by omega) (by decide)]
  rw [pp_r2 (y := b) (f := 17) (by omega) (by decide)]
  refine And.intro (LWo_15 hB2) (Exists.intro _ (And.intro (LWr_15_4 hB2) ?_))
  refine And.intro ⟨by omega, Nat.le_of_ble_eq_true rfl, Nat.le_refl _, Nat.le_refl _⟩ ?_
  refine C347 (m := (pp m 87 6 D K b 19 (fl (fl (ud (ud E 15 0 (nI 0)) 15 1 (nI 0)) 16 (nI 0) 6) 17 (-nI 2) 36) L)) (LWo_18 hB2) (LWn_18 hB2) (by decide) ?_
  rw [pp_2 (y := b) (f := 18) (by omega) (by decide)]
  rw [pp_r2 (y := b) (f := 18) (by omega) (by decide)]
  refine And.intro ⟨rfl, rfl, Nat.le_refl _, Nat.le_refl _⟩ ?_
  exact hQ
theorem D20 {d : Nat} {m : Mm} {Q : Option Value → Mm → Prop} {b : Nat} {E : Nat → Nat → Int32} {L : Nat → Nat → Int64} (hW : Wd m.2.2) (hB2 : LW m.2.2 b) (hdj : b + 19 ≤ 87 ∨ 87 + 6 ≤ b) {D : Nat → Nat → Int32} {K : Nat → Nat → Int64} (hd : 2 ≤ d) (hQ : Q none (pp m 87 6 D K b 19 (cleF E) L)) : Cc d 0 0 20 [.ref b] (pp m 87 6 D K b 19 E L) Q := by
  refine ent (n := 92) z20 (by decide) rfl (by decide) (Nat.le_of_ble_eq_true rfl) (fun sc => ?_)
  refine And.intro (LWo_0 hB2) ?_
  rw [pp_u20 (y := b) (by omega) (by decide)]
  refine And.intro (LWo_0 hB2) ?_
  rw [pp_u20 (y := b) (by omega) (by decide)]
  refine And.intro (LWo_0 hB2) ?_
  rw [pp_u20 (y := b) (by omega) (by decide)]
  refine And.intro (LWo_0 hB2) ?_
  rw [pp_u20 (y := b) (by omega) (by decide)]
  refine And.intro (LWo_0 hB2) (Exists.intro _ (And.intro (LWr_0_4 hB2) ?_))
  refine And.intro ⟨by omega, Nat.le_of_ble_eq_true rfl, Nat.le_refl _, Nat.le_refl _⟩ ?_
  refine C347 (m := (pp m 87 6 D K b 19 (ud (ud (ud (ud E 0 0 (nI 0)) 0 1 (nI 0)) 0 2 (nI 0)) 0 3 (nI 0)) L)) (LWo_1 hB2) (LWn_1 hB2) (by decide) ?_
  rw [pp_2 (y := b) (f := 1) (by omega) (by decide)]
  rw [pp_r2 (y := b) (f := 1) (by omega) (by decide)]
  refine And.intro (LWo_0 hB2) (Exists.intro _ (And.intro (LWr_0_5 hB2) ?_))
  refine And.intro ⟨by omega, Nat.le_of_ble_eq_true rfl, Nat.le_refl _, Nat.le_refl _⟩ ?_
  refine C347 (m := (pp m 87 6 D K b 19 (fl (ud (ud (ud (ud E 0 0 (nI 0)) 0 1 (nI 0)) 0 2 (nI 0)) 0 3 (nI 0)) 1 (nI 0) 13) L)) (LWo_2 hB2) (LWn_2 hB2) (by decide) ?_
  rw [pp_2 (y := b) (f := 2) (by omega) (by decide)]
  rw [pp_r2 (y := b) (f := 2) (by omega) (by decide)]
  refine And.intro (LWo_0 hB2) (Exists.intro _ (And.intro (LWr_0_10 hB2) ?_))
  refine And.intro ⟨by omega, Nat.le_of_ble_eq_true rfl, Nat.le_refl _, Nat.le_refl _⟩ ?_
  refine C347 (m := (pp m 87 6 D K b 19 (fl (fl (ud (ud (ud (ud E 0 0 (nI 0)) 0 1 (nI 0)) 0 2 (nI 0)) 0 3 (nI 0)) 1 (nI 0) 13) 2 (nI 0) 24) L)) (LWo_7 hB2) (LWn_7 hB2) (by decide) ?_
  rw [pp_2 (y := b) (f := 7) (by omega) (by decide)]
  rw [pp_r2 (y := b) (f := 7) (by omega) (by decide)]
  refine And.intro (LWo_0 hB2) (Exists.intro _ (And.intro (LWr_0_11 hB2) ?_))
  refine And.intro ⟨by omega, Nat.le_of_ble_eq_true rfl, Nat.le_refl _, Nat.le_refl _⟩ ?_
  refine C347 (m := (pp m 87 6 D K b 19 (fl (fl (fl (ud (ud (ud (ud E 0 0 (nI 0)) 0 1 (nI 0)) 0 2 (nI 0)) 0 3 (nI 0)) 1 (nI 0) 13) 2 (nI 0) 24) 7 (nI 0) 180) L)) (LWo_8 hB2) (LWn_8 hB2) (by decide) ?_
  rw [pp_2 (y := b) (f := 8) (by omega) (by decide)]
  rw [pp_r2 (y := b) (f := 8) (by omega) (by decide)]
  refine And.intro (LWo_0 hB2) (Exists.intro _ (And.intro (LWr_0_13 hB2) ?_))
  refine And.intro ⟨by omega, Nat.le_of_ble_eq_true rfl, Nat.le_refl _, Nat.le_refl _⟩ ?_
  refine C347 (m := (pp m 87 6 D K b 19 (fl (fl (fl (fl (ud (ud (ud (ud E 0 0 (nI 0)) 0 1 (nI 0)) 0 2 (nI 0)) 0 3 (nI 0)) 1 (nI 0) 13) 2 (nI 0) 24) 7 (nI 0) 180) 8 (nI 0) 6) L)) (LWo_10 hB2) (LWn_10 hB2) (by decide) ?_
  rw [pp_2 (y := b) (f := 10) (by omega) (by decide)]
  rw [pp_r2 (y := b) (f := 10) (by omega) (by decide)]
  refine And.intro (LWo_0 hB2) (Exists.intro _ (And.intro (LWr_0_18 hB2) ?_))
  refine And.intro ⟨by omega, Nat.le_of_ble_eq_true rfl, Nat.le_refl _, Nat.le_refl _⟩ (And.intro (LWo_15 hB2) ?_)
  refine D98 hW hB2 hdj (by omega) ?_
  refine And.intro ⟨rfl, rfl, Nat.le_refl _, Nat.le_refl _⟩ ?_
  exact hQ
/-- the whole text -/
def rdF (B : Nat → Int32) (n : Nat) : Nat → NT → (Nat → Nat → Int32) → Nat → Rs (Nat → Nat → Int32)
  | 0, _, _, i => .inl (1, plF B n i)
  | r + 1, T, E, i => rb (opF E B n i) fun s => rb (lnF s.1 T E B n s.2) fun t => if kiF B n t.2.2 = 0 then (if laP (bump t.2.1 s.1) then .inl (6, plF B n t.2.2) else .inr (bump t.2.1 s.1)) else rb (pSign (nI 59) B n t.2.2) fun j => rdF B n r t.1 (bump t.2.1 s.1) j
theorem opF_c {T : NT} {E : Nat → Nat → Int32} {B : Nat → Int32} {n i s j : Nat} (hI : LRI T E) (h : opF E B n i = .inr (s, j)) : s < 13 ∧ nv (E 1 s) < rmN s ∧ (s = 1 → nv (E 1 1) < nv (E 0 1)) ∧ (s = 0 → nv (E 1 1) = 0) ∧ (s ≠ 0 → 0 < nv (E 1 0)) ∧ (s = 0 → nv (E 1 0) = 0) ∧ j = nxF B n i ∧ kiF B n i = 2 ∧ opS B n i = nI s := by
  obtain ⟨hC, hW, hN, hV⟩ := hI
  unfold opF at h
  split at h
  · cases h
  · rename_i h1
    split at h
    · cases h
    · rename_i h2
      split at h
      · cases h
      · rename_i h3
        by_cases h4 : (if opS B n i = nI 1 then E 0 1 else roomL.getD (nv (opS B n i)) 0) ≤ E 1 (nv (opS B n i))
        · rw [if_pos h4] at h
          cases h
        · rw [if_neg h4] at h
          cases h
          have hk : kiF B n i = 2 := Classical.byContradiction fun z => h1 (Or.inl z)
          obtain ⟨s, hs, es⟩ := opS_n (fun z => h1 (Or.inr (Or.inl z)))
          have es2 : nv (opS B n i) = s := by rw [es, nv_nI (by omega)]
          have hs13 : s < 13 := by
            have : s ≠ 13 := fun z => h1 (Or.inr (Or.inr (by rw [es, z])))
            omega
          rw [es2] at h3 h4 ⊢
          rw [es] at h2 h3 h4
          have hcs := hC s hs13
          have hc1 := hC 1 (by decide)
          have hc0 := hC 0 (by decide)
          have r16 := rmN_r s hs13
          have q0 : s ≠ 0 → 0 < nv (E 1 0) := fun z => by
            rcases Nat.eq_zero_or_pos (nv (E 1 0)) with q | q
            · exact absurd ⟨fun y => z ((nI_eq (by omega) (by decide)).mp y), by rw [hc0.1, q]; decide⟩ h2
            · exact q
          have q1 : s = 0 → nv (E 1 0) = 0 := fun z => by
            rcases Nat.eq_zero_or_pos (nv (E 1 0)) with q | q
            · exact q
            · refine absurd ⟨Or.inl (by rw [z]), ?_⟩ h3
              rw [z, hc0.1]
              exact Int32.not_le.mp (nI_nle q (by have := hc0.2; change nv (E 1 0) ≤ 1 at this; omega))
          have q11 : s = 1 → nv (E 1 1) < nv (E 0 1) := fun z => by
            rw [if_pos (by rw [z]), z, hc1.1, hW.2.2.1, nI_leI (by have := hW.2.2.2.1; omega) (by have := hc1.2; change nv (E 1 1) ≤ 4 at this; omega)] at h4
            omega
          refine ⟨hs13, ?_, q11, fun z => ?_, q0, q1, rfl, hk, es⟩
          · by_cases ez1 : s = 1
            · have := q11 ez1
              have := hW.2.2.2.1
              rw [ez1]
              show nv (E 1 1) < 4
              omega
            · rw [if_neg (fun z => ez1 ((nI_eq (by omega) (by decide)).mp z)), r16.1, hcs.1, nI_leI (by omega) (by have := hcs.2; omega)] at h4
              omega
          · have z1 := (hV.2.2.2.2.2.2.2.1 (q1 z)).2
            have z2 := hW.2.2.2.2
            omega
theorem lq57 {sc : Nat × (Nat → Int32)} {d : Nat} {m : Mm} {Q : Option Value → Mm → Prop} {b : Nat} {L : Nat → Nat → Int64} (hW : Wd m.2.2) (hB2 : LW m.2.2 b) (hdj : b + 19 ≤ 87 ∨ 87 + 6 ≤ b) {B : Nat → Int32} {n : Nat} {T0 : NT} {E0 : Nat → Nat → Int32} (hd : 12 ≤ d) (hb4 : va_rf (mR m 87 4) = .ref b) (hF : ∀ D1 K1 E1 f p, rdF B n (n + 1) T0 E0 0 = .inl (f, p) → D1 0 7 = nI f → D1 0 8 = nI p → D1 1 1 = nI 0 → Q (some (.int (nI 0))) (pp m 87 6 D1 K1 b 19 E1 L)) (hO : ∀ D1 K1 E1 T1, rdF B n (n + 1) T0 E0 0 = .inr E1 → LRI T1 E1 → ¬ laP E1 → D1 0 7 = nI 0 → D1 1 1 = nI 0 → Q (some (.int (nI 1))) (pp m 87 6 D1 K1 b 19 E1 L)) (hn : n ≤ 1200)  : ∀ (j l : Nat) (D : Nat → Nat → Int32) (K : Nat → Nat → Int64) (E : Nat → Nat → Int32) (T : NT) (i : Nat), l ≤ (n + 1) → (n + 1) + 1 ≤ l + j → (RS B n T.1 i D K ∧ T = (T.1, K 3, D 4, D 5) ∧ LRI T E ∧ rdF B n (n + 1 - l) T E i = rdF B n (n + 1) T0 E0 0) → Jj sc d 0 0 (mth 57) (pg P57 18).1 [some (.ref 87), some (.int (nI n)), some (.int (nI l)), none] [] (pp m 87 6 D K b 19 E L) 0 0 Q := by
  intro j
  induction j with
  | zero => intro l D K E T i h1 h2 hall; omega
  | succ j ih =>
    intro l D K E T i h1 h2 hall
    refine J_w z57 (i := 18) (by decide) 142 ?_
    obtain ⟨hR, hTT, hI, hrd⟩ := hall
    refine And.intro (fun cz20 => ?_) (fun cz20 => ?_)
    · -- 20 taken: nI n < nI l
      have kz20 : n < l := klt (a := n) (b := l) rfl rfl (by omega) (by omega) cz20
      refine And.intro ⟨by omega, Nat.le_of_ble_eq_true rfl, Nat.le_refl _, Nat.le_refl _⟩ (And.intro (Wdo_87 hW) ?_)
      refine D84 hW hB2 hdj ?_
      refine And.intro ⟨rfl, Or.inl rfl, Nat.le_refl _, Nat.le_refl _⟩ ?_
      exact hF _ _ _ 1 (plF B n i) (by rw [← hrd, show n + 1 - l = 0 by omega]; rfl) rfl hR.1.2.2.1 hR.1.2.2.2.2.2.2.2.2
    · -- 20 not: ¬ nI n < nI l
      have kz20 : l ≤ n := knlt (a := n) (b := l) rfl rfl (by omega) (by omega) cz20
      have hfu : n + 1 - l = (n - l) + 1 := by omega
      refine And.intro ⟨by omega, Nat.le_of_ble_eq_true rfl, Nat.le_refl _, Nat.le_refl _⟩ (And.intro (Wdo_87 hW) ?_)
      refine D59 hW hB2 hdj (by omega) hb4 hR ?_ ?_
      · -- a way behind the call
        intro D9 K9 f9 p9 ez9 g7 g8 g9
        have ef : rdF B n (n + 1) T0 E0 0 = .inl (f9, p9) := by rw [← hrd, hfu]; simp only [rdF, rb, ez9]
        refine And.intro (fun cz26 => ?_) (fun cz26 => ?_)
        · -- 26 taken: -nI 1 = -nI 1
          refine And.intro ⟨rfl, Or.inl rfl, Nat.le_refl _, Nat.le_refl _⟩ ?_
          exact hF _ _ _ f9 p9 ef g7 g8 g9
        · -- 26 not: ¬ -nI 1 = -nI 1
          skip
          exact absurd rfl cz26
      · -- a way behind the call
        intro D1 K1 s9 j9 eo su
        have ho := opF_c hI eo
        have hT1 : T = (T.1, K1 3, D1 4, D1 5) := by rw [su.2.2.2.1, su.2.1, su.2.2.1]; exact hTT
        refine And.intro (fun cz26 => ?_) (fun cz26 => ?_)
        · -- 26 taken: nI s9 = -nI 1
          exact absurd cz26 (nI_neg1 (by omega))
        · -- 26 not: ¬ nI s9 = -nI 1
          have ho1 := ho.1
          refine And.intro ⟨by omega, Nat.le_of_ble_eq_true rfl, Nat.le_refl _, Nat.le_refl _⟩ (And.intro (Wdo_87 hW) ?_)
          refine D60 (s := s9) hW hB2 hdj (by omega) hb4 su.1 hT1 ho.1 hI ho.2.1 ho.2.2.1 ?_ ?_
          · -- a way behind the call
            intro D9 K9 E9 f9 p9 ez9 g7 g8 g9
            have ef : rdF B n (n + 1) T0 E0 0 = .inl (f9, p9) := by rw [← hrd, hfu]; simp only [rdF, rb, eo, ez9]
            refine And.intro (fun cz30 => False.elim (absurd cz30 (by decide))) (fun cz30 => ?_)
            refine And.intro ⟨rfl, Or.inl rfl, Nat.le_refl _, Nat.le_refl _⟩ ?_
            exact hF _ _ _ f9 p9 ef g7 g8 g9
          · -- a way behind the call
            intro D2 K2 E2 T2 j2 el hR2 hT2
            have hI2 := pvN el hI ho.1 ho.2.1 ho.2.2.1 ho.2.2.2.1
            refine And.intro (fun cz30 => ?_) (fun cz30 => False.elim (absurd cz30 (by decide)))
            refine And.intro (Wdo_87 hW) (Exists.intro _ (And.intro hb4 ?_))
            refine And.intro (LWo_0 hB2) (Exists.intro _ (And.intro (LWr_0_4 hB2) ?_))
            refine And.intro ⟨rfl, rfl⟩ ?_
            refine And.intro (LWi_1 hB2 (vi rfl (by omega))) ?_
            rw [nI_clamp (show s9 < 2 ^ 31 by omega)]
            rw [pp_2 (y := b) (f := 1) (by omega) (by decide)]
            refine And.intro (LWi_1 hB2 (vi rfl (by omega))) ?_
            rw [nI_clamp (show s9 < 2 ^ 31 by omega)]
            rw [pp_u2 (y := b) (f := 1) (by omega) (by decide)]
            refine And.intro (Wdo_87 hW) (Exists.intro _ (And.intro (Wdr_87_0 hW) ?_))
            refine And.intro (Wdo_88 hW) ?_
            rw [pp_1 (x := 87) (f := 1) (by decide)]
            refine And.intro (fun cz45 => ?_) (fun cz45 => ?_)
            · -- 45 taken: ¬ D2 1 4 = 0
              have hk9 : ¬ kiF B n j2 = 0 := fun z => cz45 ((ki_q (c := 0) hR2.1.2.2.2.1 (by decide)).mpr z)
              refine And.intro ⟨by omega, Nat.le_of_ble_eq_true rfl, Nat.le_refl _, Nat.le_refl _⟩ (And.intro (Wdo_87 hW) ?_)
              refine D78 (w0 := nI 59) hW hB2 hdj (by omega) hR2 ?_ ?_
              · -- a way behind the call
                intro D9 K9 f9 p9 ez9 g7 g8 g9
                have ef : rdF B n (n + 1) T0 E0 0 = .inl (f9, p9) := by rw [← hrd, hfu]; simp only [rdF, rb, eo, el, if_neg hk9, ez9]
                refine And.intro (fun cz52 => False.elim (absurd cz52 (by decide))) (fun cz52 => ?_)
                refine And.intro ⟨rfl, Or.inl rfl, Nat.le_refl _, Nat.le_refl _⟩ ?_
                exact hF _ _ _ f9 p9 ef g7 g8 g9
              · -- a way behind the call
                intro D3 K3 j3 ez3 su3 vv3
                refine And.intro (fun cz52 => ?_) (fun cz52 => False.elim (absurd cz52 (by decide)))
                show Jj sc d 0 0 (mth 57) (pg P57 18).1 [some (.ref 87), some (.int (nI n)), some (.int (nI l + nI 1)), some (.int (nI s9))] [] (pp m 87 6 D3 K3 b 19 (ud E2 1 s9 (E2 1 s9 + nI 1)) L) 0 0 Q
                rw [show nI l + nI 1 = nI (l + 1) from by simp only [nI_add, pk_mul]]
                refine J_wk (L' := [some (.ref 87), some (.int (nI n)), some (.int (nI (l + 1))), none]) ⟨rfl, rfl, rfl, trivial⟩ ?_
                refine ih (l + 1) D3 K3 _ T2 j3 (by omega) (by omega) ⟨su3.1, by rw [su3.2.2.2.1, su3.2.1, su3.2.2.1]; exact hT2, hI2, ?_⟩
                rw [← hrd, hfu, show n + 1 - (l + 1) = n - l by omega]
                simp only [rdF, rb, eo, el, if_neg hk9, ez3]
                rfl
            · -- 45 not: D2 1 4 = 0
              have hk9 := (ki_q (c := 0) hR2.1.2.2.2.1 (by decide)).mp cz45
              refine And.intro ⟨by omega, Nat.le_of_ble_eq_true rfl, Nat.le_refl _, Nat.le_refl _⟩ (And.intro (Wdo_87 hW) ?_)
              refine D58 hW hB2 hdj (by omega) hb4 ?_ ?_
              · -- a way behind the call
                intro hl
                refine And.intro ⟨rfl, Or.inl rfl, Nat.le_refl _, Nat.le_refl _⟩ ?_
                exact hF _ _ _ 6 (plF B n j2) (by rw [← hrd, hfu]; simp only [rdF, rb, eo, el, if_pos hk9]; exact if_pos hl) rfl hR2.1.2.2.1 hR2.1.2.2.2.2.2.2.2.2
              · -- a way behind the call
                intro hl
                refine And.intro ⟨rfl, Or.inr rfl, Nat.le_refl _, Nat.le_refl _⟩ ?_
                exact hO _ _ _ T2 (by rw [← hrd, hfu]; simp only [rdF, rb, eo, el, if_pos hk9]; exact if_neg hl) hI2 hl hR2.2.2.2.2 hR2.1.2.2.2.2.2.2.2.2
theorem cl_c {E : Nat → Nat → Int32} {s : Nat} (h : s < 13) : cleF E 1 s = nI 0 := fi_lt (f := E 1) h
theorem LRI_0 {E : Nat → Nat → Int32} {cs : Nat → Int64} {ss ns : Nat → Int32} : LRI (0, cs, ss, ns) (cleF E) := by
  have h0 : nv (nI 0) = 0 := nv_nI (by decide)
  have hc : ∀ s, s < 13 → nv (cleF E 1 s) = 0 := fun s hs => by rw [cl_c hs, h0]
  refine ⟨fun s hs => ⟨by rw [hc s hs, cl_c hs], by rw [hc s hs]; exact Nat.zero_le _⟩, ⟨rfl, ?_, rfl, ?_, ?_⟩, ⟨?_, fun j hj => absurd hj (by show ¬ j < 0; omega), fun j hj => absurd hj (by show ¬ j < 0; omega), fun j hj => absurd hj (by show ¬ j < 0; omega)⟩, fun c hc => ?_, fun g hg => ?_, fun g hg => ?_, fun g hg => ?_, fun g hg => ?_, fun g hg => ?_, fun x hx => ?_, ?_, ?_, ?_, ?_, ?_, ?_⟩
  · show nv (nI 0) ≤ 6
    rw [h0]; omega
  · show nv (nI 0) ≤ 4
    rw [h0]; omega
  · rw [hc 1 (by decide)]; exact Nat.zero_le _
  · rw [hc 2 (by decide), hc 4 (by decide), hc 8 (by decide), hc 10 (by decide)]
  · show iR (fiF (E 2) (nI 0) 24 c) 5
    rw [fi_lt hc]
    exact ⟨0, by decide, rfl⟩
  · rw [hc 4 (by decide)] at hg; omega
  · rw [hc 8 (by decide)] at hg; omega
  · rw [hc 10 (by decide)] at hg; omega
  · rw [hc 11 (by decide)] at hg; omega
  · rw [hc 12 (by decide)] at hg; omega
  · exact Or.inl (fi_lt (f := E 17) hx)
  · intro _
    exact ⟨h0, h0⟩
  · intro z
    rw [hc 0 (by decide)] at z; omega
  · exact ⟨0, by decide, rfl⟩
  · exact ⟨0, by decide, rfl⟩
  · rfl
  · rfl
theorem D57 {d : Nat} {m : Mm} {Q : Option Value → Mm → Prop} {b : Nat} {E : Nat → Nat → Int32} {L : Nat → Nat → Int64} (hW : Wd m.2.2) (hB2 : LW m.2.2 b) (hdj : b + 19 ≤ 87 ∨ 87 + 6 ≤ b) {D : Nat → Nat → Int32} {K : Nat → Nat → Int64} {B : Nat → Int32} {n : Nat} (hd : 12 ≤ d) (hb4 : va_rf (mR m 87 4) = .ref b) (hn : n ≤ 1200) (hB : D 2 = B) (hF : ∀ D1 K1 E1 f p, rdF B n (n + 1) ((0, K 3, D 4, D 5) : NT) (cleF E) 0 = .inl (f, p) → D1 0 7 = nI f → D1 0 8 = nI p → D1 1 1 = nI 0 → Q (some (.int (nI 0))) (pp m 87 6 D1 K1 b 19 E1 L)) (hO : ∀ D1 K1 E1 T1, rdF B n (n + 1) ((0, K 3, D 4, D 5) : NT) (cleF E) 0 = .inr E1 → LRI T1 E1 → ¬ laP E1 → D1 0 7 = nI 0 → D1 1 1 = nI 0 → Q (some (.int (nI 1))) (pp m 87 6 D1 K1 b 19 E1 L))  : Cc d 0 0 57 [.ref 87, .int (nI n)] (pp m 87 6 D K b 19 E L) Q := by
  refine ent (n := 142) z57 (by decide) rfl (by decide) (Nat.le_of_ble_eq_true rfl) (fun sc => ?_)
  refine And.intro (Wdo_87 hW) (Exists.intro _ (And.intro hb4 ?_))
  refine And.intro ⟨by omega, Nat.le_of_ble_eq_true rfl, Nat.le_refl _, Nat.le_refl _⟩ (And.intro (LWo_0 hB2) ?_)
  refine D20 hW hB2 hdj (by omega) ?_
  refine And.intro (Wdo_87 hW) ?_
  rw [pp_u10 (x := 87) (by decide)]
  refine And.intro (Wdo_87 hW) ?_
  rw [pp_u10 (x := 87) (by decide)]
  refine And.intro (Wdo_87 hW) ?_
  rw [pp_u10 (x := 87) (by decide)]
  refine And.intro (Wdo_87 hW) (Exists.intro _ (And.intro (Wdr_87_0 hW) ?_))
  refine And.intro ⟨by omega, Nat.le_of_ble_eq_true rfl, Nat.le_refl _, Nat.le_refl _⟩ (And.intro (Wdo_88 hW) ?_)
  refine D107 (B := B) (n := n) hW hB2 hdj (by omega) hn hB (fun D1 K1 uT u1 uD uK => ?_)
  show Jj sc d 0 0 (mth 57) (pg P57 18).1 [some (.ref 87), some (.int (nI n)), some (.int (nI 0)), none] [] (pp m 87 6 D1 K1 b 19 (cleF E) L) 0 0 Q
  exact lq57 (T0 := (0, K 3, D 4, D 5)) (E0 := cleF E) hW hB2 hdj hd hb4 hF hO hn (n + 1 + 1) 0 D1 K1 (cleF E) (0, K 3, D 4, D 5) 0 (Nat.zero_le _) (by omega) ⟨⟨uT, Nat.zero_le _, hn, congrFun (uD 0 (by decide)) 5, congrFun (uD 0 (by decide)) 7⟩, by rw [uK 3 (by decide), uD 4 (by decide), uD 5 (by decide)]; rfl, LRI_0, rfl⟩
