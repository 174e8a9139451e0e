/-! ===== the code of a word, as a number ===== -/
def cN (B : Nat → Int32) (p j : Nat) : Nat := fo (fun j y => y * 32 + (nv (B (p + j)) - 96)) 0 j
theorem cN_s {B : Nat → Int32} {p j : Nat} : cN B p (j + 1) = cN B p j * 32 + (nv (B (p + j)) - 96) := fo_s
theorem ltr_n {x : Int32} (h : ltr x) : x = nI (nv x) ∧ 97 ≤ nv x ∧ nv x ≤ 122 := by
  obtain ⟨h1, h2⟩ := iR_of (a := 97) (b := 122) (by decide) (by decide) h.1 h.2
  have := iR_e h1 (by decide)
  exact ⟨this.1, h2, by omega⟩
theorem cd_n {B : Nat → Int32} {p : Nat} : ∀ j, j ≤ 8 → (∀ x, x < j → ltr (B (p + x))) → cdQ (nI 97) B p j = lN (cN B p j) ∧ cN B p j < 32 ^ j
  | 0, _, _ => ⟨rfl, Nat.one_pos⟩
  | j + 1, hj, h => by
    obtain ⟨h1, h2⟩ := cd_n (B := B) (p := p) j (by omega) (fun x hx => h x (by omega))
    have hl := ltr_n (h j (by omega))
    rw [cdQ_s, cN_s, h1]
    constructor
    · rw [show B (p + j) - nI 97 + nI 1 = nI (nv (B (p + j)) - 96) by rw [hl.1, pk_sub hl.2.1, nI_add, nv_nI (by omega), show nv (B (p + j)) - 97 + 1 = nv (B (p + j)) - 96 by omega], nI_l (by omega), lN_mul, lN_add]
    · rw [Nat.pow_succ]
      omega
theorem ki2_l {B : Nat → Int32} {n i : Nat} (h : kiF B n i = 2) : leT B n i ≤ 8 ∧ 1 ≤ leT B n i ∧ ∀ x, x < leT B n i → ltr (B (plF B n i + x)) := by
  unfold kiF kiP at h
  split at h
  · omega
  · rename_i h0
    split at h
    · rename_i h1
      split at h
      · omega
      · rename_i h2
        refine ⟨by show wlF _ _ _ ≤ 8; omega, ?_, fun x hx => (rn_in hx).2⟩
        rcases Nat.eq_zero_or_pos (leT B n i) with z | z
        · have := rn_out (f := nI 97) (l := nI 122) (B := B) (n := n) (p := plF B n i)
          rw [show rn (nI 97) (nI 122) B n (plF B n i) = 0 from z] at this
          exact absurd ⟨by omega, h1⟩ this
        · exact z
    · split at h
      · split at h <;> omega
      · split at h <;> omega
theorem coq_n {B : Nat → Int32} {n i : Nat} (h : kiF B n i = 2) : coT B n i = lN (cN B (plF B n i) (leT B n i)) ∧ cN B (plF B n i) (leT B n i) < 2 ^ 40 := by
  obtain ⟨h1, h2, h3⟩ := ki2_l h
  obtain ⟨e, hlt⟩ := cd_n (B := B) (p := plF B n i) _ h1 h3
  refine ⟨e, Nat.lt_of_lt_of_le hlt ?_⟩
  calc 32 ^ leT B n i ≤ 32 ^ 8 := Nat.pow_le_pow_right (by decide) h1
    _ = 2 ^ 40 := by decide
/-- a word of one letter -/
theorem coq_1 {B : Nat → Int32} {n i : Nat} (h : kiF B n i = 2) (h1 : leT B n i = 1) : coT B n i = lN (nv (B (plF B n i)) - 96) := by
  rw [(coq_n h).1, h1, show (1 : Nat) = 0 + 1 from rfl, cN_s]
  show lN (0 * 32 + _) = _
  rw [Nat.zero_mul, Nat.zero_add, Nat.add_zero]
theorem coq_2 {B : Nat → Int32} {n i : Nat} (h : kiF B n i = 2) (h1 : leT B n i ≠ 1) : 33 ≤ cN B (plF B n i) (leT B n i) := by
  obtain ⟨h8, hp, h3⟩ := ki2_l h
  obtain ⟨k, hk⟩ : ∃ k, leT B n i = k + 2 := ⟨leT B n i - 2, by omega⟩
  rw [hk] at h3 ⊢
  have l1 := ltr_n (h3 k (by omega))
  have l2 := ltr_n (h3 (k + 1) (by omega))
  rw [cN_s, cN_s]
  omega
theorem gr_x {B : Nat → Int32} {n i : Nat} (h : kiF B n i = 2) : (coT B n i = lN 1497 → ixF (coT B n i) soiL (nI 0) = nI 5) ∧ (leT B n i = 1 → ¬ B (plF B n i) - nI 97 < nI 0 → B (plF B n i) - nI 97 ≤ nI 4 → ixF (coT B n i) soiL (nI 0) = B (plF B n i) - nI 97) ∧ (¬ coT B n i = lN 1497 → ¬ (leT B n i = 1 ∧ ¬ B (plF B n i) - nI 97 < nI 0 ∧ B (plF B n i) - nI 97 ≤ nI 4) → ixF (coT B n i) soiL (nI 0) = -nI 1) := by
  obtain ⟨h8, hp, h3⟩ := ki2_l h
  have l0 := ltr_n (h3 0 (by omega))
  rw [Nat.add_zero] at l0
  have hs : B (plF B n i) - nI 97 = nI (nv (B (plF B n i)) - 97) := by rw [l0.1, pk_sub l0.2.1, nv_nI (by omega)]
  refine ⟨fun z => by rw [z]; decide +kernel, fun h1 _ h5 => ?_, fun ha hn => ?_⟩
  · rw [hs, nI_leI (by omega) (by decide)] at h5
    rw [coq_1 h h1, hs]
    obtain ⟨k, hk⟩ : ∃ k, nv (B (plF B n i)) = 97 + k := ⟨nv (B (plF B n i)) - 97, by omega⟩
    rw [hk] at h5 ⊢
    have hk5 : k < 5 := by omega
    rw [show 97 + k - 96 = k + 1 by omega, show 97 + k - 97 = k by omega]
    match k, hk5 with
    | 0, _ => decide +kernel
    | 1, _ => decide +kernel
    | 2, _ => decide +kernel
    | 3, _ => decide +kernel
    | 4, _ => decide +kernel
    | k + 5, h => exact absurd h (by omega)
  · have hne : ∀ k, 1 ≤ k → k ≤ 5 → ¬ lN k = coT B n i := fun k kz1 kz5 z => by
      rw [(coq_n h).1, pk_lEQ (by omega) (by have := (coq_n h).2; omega)] at z
      by_cases h1 : leT B n i = 1
      · have z2 := coq_1 h h1
        rw [(coq_n h).1, ← z, pk_lEQ (by omega) (by omega)] at z2
        refine hn ⟨h1, ?_, ?_⟩
        · rw [hs]; exact nI_pos (by omega)
        · rw [hs, nI_leI (by omega) (by decide)]; omega
      · have := coq_2 h h1
        omega
    refine ix_r (x := 0) (fun e he => ?_)
    rcases List.mem_cons.mp he with rfl | he
    · exact hne 1 (by decide) (by decide)
    rcases List.mem_cons.mp he with rfl | he
    · exact hne 2 (by decide) (by decide)
    rcases List.mem_cons.mp he with rfl | he
    · exact hne 3 (by decide) (by decide)
    rcases List.mem_cons.mp he with rfl | he
    · exact hne 4 (by decide) (by decide)
    rcases List.mem_cons.mp he with rfl | he
    · exact hne 5 (by decide) (by decide)
    rcases List.mem_cons.mp he with rfl | he
    · exact fun z => ha z.symm
    cases he
theorem L227 {d : Nat} {m : Mm} {Q : Option Value → Mm → Prop} {q : Nat} {E : Nat → Nat → Int32} {L : Nat → Nat → Int64} (hW : Wd m.2.2) (hN : NW m.2.2 q) (hdq : q + 29 ≤ 142 ∨ 142 + 3 ≤ q) {D : Nat → Nat → Int32} {K : Nat → Nat → Int64} {y : Int32} {B : Nat → Int32} {n i : Nat} (hR : RBy B n D) (hT : TR B n i D K) (hi : i ≤ n) (h14 : D 0 14 = nI 0) (hd : 8 ≤ d) (hQ : ∀ D1 K1 (v : Int32), RX B n (rb (pGround y B n i) fun a => .inr a.2) D1 K1 → FY D D1 → (∀ i9 a j, (.inr i : Rs Nat) = .inr i9 → pGround y B n i9 = .inr (a, j) → (a = -nI 2 → v = -nI 1) ∧ (¬ a = -nI 2 → v = a)) → Q (some (.int v)) (pp m 142 3 D1 K1 q 29 E L))  : Cc d 0 0 227 [.ref 142, .int y] (pp m 142 3 D K q 29 E L) Q := by
  refine ent (n := 132) z227 (by decide) rfl (by decide) (Nat.le_of_ble_eq_true rfl) (fun sc => ?_)
  refine And.intro (Wdo_142 hW) ?_
  rw [pp_10 (x := 142) (by decide)]
  refine And.intro (fun cz3 => ?_) (fun cz3 => ?_)
  · -- 3 taken: D 0 9 = nI 2
    have kk2 := (sq_q (c := 2) hT.2.1 (by decide) (by decide)).mp cz3
    refine And.intro (fun cz8 => ?_) (fun cz8 => ?_)
    · -- 8 taken: y = 0
      refine And.intro (Wdo_142 hW) ?_
      rw [pp_10 (x := 142) (by decide)]
      refine And.intro (fun cz20 => ?_) (fun cz20 => ?_)
      · -- 20 taken: ¬ D 0 9 = nI 5
        refine And.intro (Wdo_142 hW) (Exists.intro _ (And.intro (Wdr_142_16 hW) ?_))
        refine And.intro (Wdi_144 hW (vi rfl (by omega))) ?_
        rw [nI_clamp (show 0 < 2 ^ 31 by omega)]
        rw [pp_1 (x := 142) (f := 2) (by decide)]
        refine And.intro (Wdo_142 hW) ?_
        rw [pp_10 (x := 142) (by decide)]
        refine And.intro (fun cz33 => ?_) (fun cz33 => ?_)
        · -- 33 taken: D 0 9 = nI 5
          exact absurd cz33 (sq_5 hT.2.1)
        · -- 33 not: ¬ D 0 9 = nI 5
          refine And.intro (fun cz35 => False.elim (absurd cz35 (by decide))) (fun cz35 => ?_)
          refine And.intro (Wdo_142 hW) ?_
          rw [pp_10 (x := 142) (by decide)]
          refine And.intro (fun cz39 => ?_) (fun cz39 => ?_)
          · -- 39 taken: ¬ D 0 13 = nI 1
            refine And.intro ⟨by omega, Nat.le_of_ble_eq_true rfl, Nat.le_refl _, Nat.le_refl _⟩ (And.intro (Wdo_142 hW) ?_)
            refine D212 hW hN hdq (fun z => absurd z (sq_5 hT.2.1)) (fun _ => ?_)
            · -- a way behind the call
              rw [show (ud (ud (ud D 0 14 (nI 7)) 0 15 (D 0 10)) 0 9 (nI 5)) = flD D (nI 7) from rfl]
              refine And.intro ⟨by omega, Nat.le_of_ble_eq_true rfl, Nat.le_refl _, Nat.le_refl _⟩ (And.intro (Wdo_142 hW) ?_)
              refine O211 hW hN hdq rfl ?_
              refine And.intro (fun cz51 => ?_) (fun cz51 => False.elim (absurd cz51 (by decide)))
              refine And.intro ⟨rfl, trivial, Nat.le_refl _, Nat.le_refl _⟩ ?_
              have sp0 := (hT.2.2.2.1 kk2).2.2 0 (ki2_l kk2).2.1
              rw [Nat.add_zero] at sp0
              have hna : y = 0 ∨ ¬ coT B n i = lN 1497 := (Or.inl cz8)
              have hl13 := (hT.2.2.2.1 kk2).1
              have hbd : ¬ (leT B n i = 1 ∧ ¬ B (plF B n i) - nI 97 < nI 0 ∧ B (plF B n i) - nI 97 ≤ nI 4) := fun z => cz39 (by rw [hl13, z.1])
              have ew : pGround y B n i = .inl (7, plF B n i) := by
                unfold pGround
                rw [if_pos kk2]
                by_cases ha : coT B n i = lN 1497
                · rw [(gr_x kk2).1 ha, if_pos (Or.inr ⟨rfl, hna.resolve_right (fun z => z ha)⟩)]
                · rw [(gr_x kk2).2.2 ha hbd, if_pos (Or.inl rfl)]
              exact hQ _ _ _ (by rw [ew]; exact RX_f hR hT) FY_f (fun i2 a j z e => by cases z; rw [ew] at e; cases e)
          · -- 39 not: D 0 13 = nI 1
            refine And.intro ⟨by omega, Nat.le_of_ble_eq_true rfl, Nat.le_refl _, Nat.le_refl _⟩ ?_
            refine C204 (m := (pp m 142 3 D K q 29 E L)) ?_
            refine And.intro (fun cz44 => ?_) (fun cz44 => ?_)
            · -- 44 taken: ¬ bi (nI 0 ≤ (D 2 0) - nI 97 ∧ (D 2 0) - nI 97 ≤ nI 4) = 0
              refine And.intro ⟨by omega, Nat.le_of_ble_eq_true rfl, Nat.le_refl _, Nat.le_refl _⟩ (And.intro (Wdo_142 hW) ?_)
              have h8 : D 0 8 = nI (nxF B n i) := hT.2.2.1 (by omega)
              refine D211 (B := B) (n := n) (i := nxF B n i) hW hN hdq (by omega) hR (nxF_le hi) (fun D1 K1 uT uX => ?_) h8 (sq_5 hT.2.1)
              · -- a way behind the call
                refine And.intro (fun cz51 => ?_) (fun cz51 => False.elim (absurd cz51 (by decide)))
                refine And.intro ⟨rfl, trivial, Nat.le_refl _, Nat.le_refl _⟩ ?_
                have sp0 := (hT.2.2.2.1 kk2).2.2 0 (ki2_l kk2).2.1
                rw [Nat.add_zero] at sp0
                have hna : y = 0 ∨ ¬ coT B n i = lN 1497 := (Or.inl cz8)
                have hl13 := (hT.2.2.2.1 kk2).1
                rw [sp0] at cz44
                have hw := bi_ne0.mp cz44
                have h1 : leT B n i = 1 := (nI_eq (by have := (ki2_l kk2).1; omega) (by decide)).mp (hl13.symm.trans cz39)
                have hx := (gr_x kk2).2.1 h1 (Int32.not_lt.mpr hw.1) hw.2
                obtain ⟨k, hk, ek⟩ := (iR_of (a := 0) (b := 4) (by decide) (by decide) hw.1 hw.2).1
                have ew : pGround y B n i = .inr (B (plF B n i) - nI 97, nxF B n i) := by
                  unfold pGround
                  rw [if_pos kk2, hx, ek, if_neg (fun z => z.elim (nI_neg1 (by omega)) (fun w => absurd ((nI_eq (by omega) (by decide)).mp w.1) (by omega))), if_neg (fun w => absurd ((nI_eq (by omega) (by decide)).mp w) (by omega))]
                refine hQ _ _ _ (by rw [ew]; exact (RX_l hR uX uT (nxF_le hi) h14)) (FY_x uX) (fun i2 a j z e => ?_)
                have ez3 : i2 = i := (Sum.inr.inj z).symm
                rw [ez3, ew] at e
                have ez4 : a = B (plF B n i) - nI 97 := (congrArg Prod.fst (Sum.inr.inj e)).symm
                rw [ez4, sp0]
                refine ⟨fun w => ?_, fun _ => rfl⟩
                rw [ek] at w
                exact absurd (show nI k < 0 by rw [w]; decide) (nI_pos (by omega))
            · -- 44 not: bi (nI 0 ≤ (D 2 0) - nI 97 ∧ (D 2 0) - nI 97 ≤ nI 4) = 0
              refine And.intro ⟨by omega, Nat.le_of_ble_eq_true rfl, Nat.le_refl _, Nat.le_refl _⟩ (And.intro (Wdo_142 hW) ?_)
              refine D212 hW hN hdq (fun z => absurd z (sq_5 hT.2.1)) (fun _ => ?_)
              · -- a way behind the call
                rw [show (ud (ud (ud D 0 14 (nI 7)) 0 15 (D 0 10)) 0 9 (nI 5)) = flD D (nI 7) from rfl]
                refine And.intro ⟨by omega, Nat.le_of_ble_eq_true rfl, Nat.le_refl _, Nat.le_refl _⟩ (And.intro (Wdo_142 hW) ?_)
                refine O211 hW hN hdq rfl ?_
                refine And.intro (fun cz51 => ?_) (fun cz51 => False.elim (absurd cz51 (by decide)))
                refine And.intro ⟨rfl, trivial, Nat.le_refl _, Nat.le_refl _⟩ ?_
                have sp0 := (hT.2.2.2.1 kk2).2.2 0 (ki2_l kk2).2.1
                rw [Nat.add_zero] at sp0
                have hna : y = 0 ∨ ¬ coT B n i = lN 1497 := (Or.inl cz8)
                have hl13 := (hT.2.2.2.1 kk2).1
                rw [sp0] at cz44
                have hbd : ¬ (leT B n i = 1 ∧ ¬ B (plF B n i) - nI 97 < nI 0 ∧ B (plF B n i) - nI 97 ≤ nI 4) := fun z => bi_eq0.mp cz44 ⟨Int32.not_lt.mp z.2.1, z.2.2⟩
                have ew : pGround y B n i = .inl (7, plF B n i) := by
                  unfold pGround
                  rw [if_pos kk2]
                  by_cases ha : coT B n i = lN 1497
                  · rw [(gr_x kk2).1 ha, if_pos (Or.inr ⟨rfl, hna.resolve_right (fun z => z ha)⟩)]
                  · rw [(gr_x kk2).2.2 ha hbd, if_pos (Or.inl rfl)]
                exact hQ _ _ _ (by rw [ew]; exact RX_f hR hT) FY_f (fun i2 a j z e => by cases z; rw [ew] at e; cases e)
      · -- 20 not: D 0 9 = nI 5
        exact absurd cz20 (sq_5 hT.2.1)
    · -- 8 not: ¬ y = 0
      refine And.intro ⟨by omega, Nat.le_of_ble_eq_true rfl, Nat.le_refl _, Nat.le_refl _⟩ (And.intro (Wdo_142 hW) ?_)
      refine D213 (s0 := 40) hW hN hdq (by decide) (by decide) wo_40 hR hT hi h14 (by omega) ?_
      refine And.intro (fun cz12 => ?_) (fun cz12 => ?_)
      · -- 12 taken: bi (kiF B n i = 2 ∧ coT B n i = lN 1497) = 0
        refine And.intro (Wdo_142 hW) ?_
        rw [pp_10 (x := 142) (by decide)]
        refine And.intro (fun cz20 => ?_) (fun cz20 => ?_)
        · -- 20 taken: ¬ D 0 9 = nI 5
          refine And.intro (Wdo_142 hW) (Exists.intro _ (And.intro (Wdr_142_16 hW) ?_))
          refine And.intro (Wdi_144 hW (vi rfl (by omega))) ?_
          rw [nI_clamp (show 0 < 2 ^ 31 by omega)]
          rw [pp_1 (x := 142) (f := 2) (by decide)]
          refine And.intro (Wdo_142 hW) ?_
          rw [pp_10 (x := 142) (by decide)]
          refine And.intro (fun cz33 => ?_) (fun cz33 => ?_)
          · -- 33 taken: D 0 9 = nI 5
            exact absurd cz33 (sq_5 hT.2.1)
          · -- 33 not: ¬ D 0 9 = nI 5
            refine And.intro (fun cz35 => False.elim (absurd cz35 (by decide))) (fun cz35 => ?_)
            refine And.intro (Wdo_142 hW) ?_
            rw [pp_10 (x := 142) (by decide)]
            refine And.intro (fun cz39 => ?_) (fun cz39 => ?_)
            · -- 39 taken: ¬ D 0 13 = nI 1
              refine And.intro ⟨by omega, Nat.le_of_ble_eq_true rfl, Nat.le_refl _, Nat.le_refl _⟩ (And.intro (Wdo_142 hW) ?_)
              refine D212 hW hN hdq (fun z => absurd z (sq_5 hT.2.1)) (fun _ => ?_)
              · -- a way behind the call
                rw [show (ud (ud (ud D 0 14 (nI 7)) 0 15 (D 0 10)) 0 9 (nI 5)) = flD D (nI 7) from rfl]
                refine And.intro ⟨by omega, Nat.le_of_ble_eq_true rfl, Nat.le_refl _, Nat.le_refl _⟩ (And.intro (Wdo_142 hW) ?_)
                refine O211 hW hN hdq rfl ?_
                refine And.intro (fun cz51 => ?_) (fun cz51 => False.elim (absurd cz51 (by decide)))
                refine And.intro ⟨rfl, trivial, Nat.le_refl _, Nat.le_refl _⟩ ?_
                have sp0 := (hT.2.2.2.1 kk2).2.2 0 (ki2_l kk2).2.1
                rw [Nat.add_zero] at sp0
                have hna : y = 0 ∨ ¬ coT B n i = lN 1497 := (Or.inr (fun z => bi_eq0.mp cz12 ⟨kk2, z⟩))
                have hl13 := (hT.2.2.2.1 kk2).1
                have hbd : ¬ (leT B n i = 1 ∧ ¬ B (plF B n i) - nI 97 < nI 0 ∧ B (plF B n i) - nI 97 ≤ nI 4) := fun z => cz39 (by rw [hl13, z.1])
                have ew : pGround y B n i = .inl (7, plF B n i) := by
                  unfold pGround
                  rw [if_pos kk2]
                  by_cases ha : coT B n i = lN 1497
                  · rw [(gr_x kk2).1 ha, if_pos (Or.inr ⟨rfl, hna.resolve_right (fun z => z ha)⟩)]
                  · rw [(gr_x kk2).2.2 ha hbd, if_pos (Or.inl rfl)]
                exact hQ _ _ _ (by rw [ew]; exact RX_f hR hT) FY_f (fun i2 a j z e => by cases z; rw [ew] at e; cases e)
            · -- 39 not: D 0 13 = nI 1
              refine And.intro ⟨by omega, Nat.le_of_ble_eq_true rfl, Nat.le_refl _, Nat.le_refl _⟩ ?_
              refine C204 (m := (pp m 142 3 D K q 29 E L)) ?_
              refine And.intro (fun cz44 => ?_) (fun cz44 => ?_)
              · -- 44 taken: ¬ bi (nI 0 ≤ (D 2 0) - nI 97 ∧ (D 2 0) - nI 97 ≤ nI 4) = 0
                refine And.intro ⟨by omega, Nat.le_of_ble_eq_true rfl, Nat.le_refl _, Nat.le_refl _⟩ (And.intro (Wdo_142 hW) ?_)
                have h8 : D 0 8 = nI (nxF B n i) := hT.2.2.1 (by omega)
                refine D211 (B := B) (n := n) (i := nxF B n i) hW hN hdq (by omega) hR (nxF_le hi) (fun D1 K1 uT uX => ?_) h8 (sq_5 hT.2.1)
                · -- a way behind the call
                  refine And.intro (fun cz51 => ?_) (fun cz51 => False.elim (absurd cz51 (by decide)))
                  refine And.intro ⟨rfl, trivial, Nat.le_refl _, Nat.le_refl _⟩ ?_
                  have sp0 := (hT.2.2.2.1 kk2).2.2 0 (ki2_l kk2).2.1
                  rw [Nat.add_zero] at sp0
                  have hna : y = 0 ∨ ¬ coT B n i = lN 1497 := (Or.inr (fun z => bi_eq0.mp cz12 ⟨kk2, z⟩))
                  have hl13 := (hT.2.2.2.1 kk2).1
                  rw [sp0] at cz44
                  have hw := bi_ne0.mp cz44
                  have h1 : leT B n i = 1 := (nI_eq (by have := (ki2_l kk2).1; omega) (by decide)).mp (hl13.symm.trans cz39)
                  have hx := (gr_x kk2).2.1 h1 (Int32.not_lt.mpr hw.1) hw.2
                  obtain ⟨k, hk, ek⟩ := (iR_of (a := 0) (b := 4) (by decide) (by decide) hw.1 hw.2).1
                  have ew : pGround y B n i = .inr (B (plF B n i) - nI 97, nxF B n i) := by
                    unfold pGround
                    rw [if_pos kk2, hx, ek, if_neg (fun z => z.elim (nI_neg1 (by omega)) (fun w => absurd ((nI_eq (by omega) (by decide)).mp w.1) (by omega))), if_neg (fun w => absurd ((nI_eq (by omega) (by decide)).mp w) (by omega))]
                  refine hQ _ _ _ (by rw [ew]; exact (RX_l hR uX uT (nxF_le hi) h14)) (FY_x uX) (fun i2 a j z e => ?_)
                  have ez3 : i2 = i := (Sum.inr.inj z).symm
                  rw [ez3, ew] at e
                  have ez4 : a = B (plF B n i) - nI 97 := (congrArg Prod.fst (Sum.inr.inj e)).symm
                  rw [ez4, sp0]
                  refine ⟨fun w => ?_, fun _ => rfl⟩
                  rw [ek] at w
                  exact absurd (show nI k < 0 by rw [w]; decide) (nI_pos (by omega))
              · -- 44 not: bi (nI 0 ≤ (D 2 0) - nI 97 ∧ (D 2 0) - nI 97 ≤ nI 4) = 0
                refine And.intro ⟨by omega, Nat.le_of_ble_eq_true rfl, Nat.le_refl _, Nat.le_refl _⟩ (And.intro (Wdo_142 hW) ?_)
                refine D212 hW hN hdq (fun z => absurd z (sq_5 hT.2.1)) (fun _ => ?_)
                · -- a way behind the call
                  rw [show (ud (ud (ud D 0 14 (nI 7)) 0 15 (D 0 10)) 0 9 (nI 5)) = flD D (nI 7) from rfl]
                  refine And.intro ⟨by omega, Nat.le_of_ble_eq_true rfl, Nat.le_refl _, Nat.le_refl _⟩ (And.intro (Wdo_142 hW) ?_)
                  refine O211 hW hN hdq rfl ?_
                  refine And.intro (fun cz51 => ?_) (fun cz51 => False.elim (absurd cz51 (by decide)))
                  refine And.intro ⟨rfl, trivial, Nat.le_refl _, Nat.le_refl _⟩ ?_
                  have sp0 := (hT.2.2.2.1 kk2).2.2 0 (ki2_l kk2).2.1
                  rw [Nat.add_zero] at sp0
                  have hna : y = 0 ∨ ¬ coT B n i = lN 1497 := (Or.inr (fun z => bi_eq0.mp cz12 ⟨kk2, z⟩))
                  have hl13 := (hT.2.2.2.1 kk2).1
                  rw [sp0] at cz44
                  have hbd : ¬ (leT B n i = 1 ∧ ¬ B (plF B n i) - nI 97 < nI 0 ∧ B (plF B n i) - nI 97 ≤ nI 4) := fun z => bi_eq0.mp cz44 ⟨Int32.not_lt.mp z.2.1, z.2.2⟩
                  have ew : pGround y B n i = .inl (7, plF B n i) := by
                    unfold pGround
                    rw [if_pos kk2]
                    by_cases ha : coT B n i = lN 1497
                    · rw [(gr_x kk2).1 ha, if_pos (Or.inr ⟨rfl, hna.resolve_right (fun z => z ha)⟩)]
                    · rw [(gr_x kk2).2.2 ha hbd, if_pos (Or.inl rfl)]
                  exact hQ _ _ _ (by rw [ew]; exact RX_f hR hT) FY_f (fun i2 a j z e => by cases z; rw [ew] at e; cases e)
        · -- 20 not: D 0 9 = nI 5
          exact absurd cz20 (sq_5 hT.2.1)
      · -- 12 not: ¬ bi (kiF B n i = 2 ∧ coT B n i = lN 1497) = 0
        refine And.intro (Wdo_142 hW) ?_
        rw [pp_10 (x := 142) (by decide)]
        refine And.intro (fun cz20 => ?_) (fun cz20 => ?_)
        · -- 20 taken: ¬ D 0 9 = nI 5
          refine And.intro (Wdo_142 hW) (Exists.intro _ (And.intro (Wdr_142_16 hW) ?_))
          refine And.intro (Wdi_144 hW (vi rfl (by omega))) ?_
          rw [nI_clamp (show 0 < 2 ^ 31 by omega)]
          rw [pp_1 (x := 142) (f := 2) (by decide)]
          refine And.intro (Wdo_142 hW) ?_
          rw [pp_10 (x := 142) (by decide)]
          refine And.intro (fun cz33 => ?_) (fun cz33 => ?_)
          · -- 33 taken: D 0 9 = nI 5
            exact absurd cz33 (sq_5 hT.2.1)
          · -- 33 not: ¬ D 0 9 = nI 5
            refine And.intro (fun cz35 => ?_) (fun cz35 => False.elim (absurd cz35 (by decide)))
            refine And.intro ⟨by omega, Nat.le_of_ble_eq_true rfl, Nat.le_refl _, Nat.le_refl _⟩ (And.intro (Wdo_142 hW) ?_)
            have h8 : D 0 8 = nI (nxF B n i) := hT.2.2.1 (by omega)
            refine D211 (B := B) (n := n) (i := nxF B n i) hW hN hdq (by omega) hR (nxF_le hi) (fun D1 K1 uT uX => ?_) h8 (sq_5 hT.2.1)
            · -- a way behind the call
              refine And.intro (fun cz51 => False.elim (absurd cz51 (by decide))) (fun cz51 => ?_)
              refine And.intro ⟨rfl, trivial, Nat.le_refl _, Nat.le_refl _⟩ ?_
              have sp0 := (hT.2.2.2.1 kk2).2.2 0 (ki2_l kk2).2.1
              rw [Nat.add_zero] at sp0
              have hx5 := (gr_x kk2).1 (bi_ne0.mp cz12).2
              have ew : pGround y B n i = .inr (-nI 2, nxF B n i) := by unfold pGround; rw [if_pos kk2, hx5, if_neg (fun z => z.elim (by decide) (fun q => cz8 q.2)), if_pos rfl]
              exact hQ _ _ _ (by rw [ew]; exact (RX_l hR uX uT (nxF_le hi) h14)) (FY_x uX) (fun i2 a j z e => by cases z; rw [ew] at e; cases e; exact ⟨fun _ => rfl, fun q => absurd rfl q⟩)
        · -- 20 not: D 0 9 = nI 5
          exact absurd cz20 (sq_5 hT.2.1)
  · -- 3 not: ¬ D 0 9 = nI 2
    refine And.intro ⟨by omega, Nat.le_of_ble_eq_true rfl, Nat.le_refl _, Nat.le_refl _⟩ (And.intro (Wdo_142 hW) ?_)
    refine D212 hW hN hdq (fun z => absurd z (sq_5 hT.2.1)) (fun _ => ?_)
    · -- a way behind the call
      rw [show (ud (ud (ud D 0 14 (nI 1)) 0 15 (D 0 10)) 0 9 (nI 5)) = flD D (nI 1) from rfl]
      refine And.intro (fun cz8 => ?_) (fun cz8 => ?_)
      · -- 8 taken: y = 0
        refine And.intro (Wdo_142 hW) ?_
        rw [pp_10 (x := 142) (by decide)]
        refine And.intro (fun cz20 => ?_) (fun cz20 => ?_)
        · -- 20 taken: ¬ (flD D (nI 1)) 0 9 = nI 5
          exact absurd rfl cz20
        · -- 20 not: (flD D (nI 1)) 0 9 = nI 5
          refine And.intro (Wdo_142 hW) ?_
          rw [pp_10 (x := 142) (by decide)]
          refine And.intro (fun cz33 => ?_) (fun cz33 => ?_)
          · -- 33 taken: (flD D (nI 1)) 0 9 = nI 5
            refine And.intro ⟨by omega, Nat.le_of_ble_eq_true rfl, Nat.le_refl _, Nat.le_refl _⟩ (And.intro (Wdo_142 hW) ?_)
            refine O211 hW hN hdq rfl ?_
            refine And.intro (fun cz51 => ?_) (fun cz51 => False.elim (absurd cz51 (by decide)))
            refine And.intro ⟨rfl, trivial, Nat.le_refl _, Nat.le_refl _⟩ ?_
            have ew : pGround y B n i = .inl (1, plF B n i) := if_neg (fun z => cz3 ((sq_q hT.2.1 (by decide) (by decide)).mpr z))
            exact hQ _ _ _ (by rw [ew]; exact RX_f hR hT) FY_f (fun i2 a j z e => by cases z; rw [ew] at e; cases e)
          · -- 33 not: ¬ (flD D (nI 1)) 0 9 = nI 5
            exact absurd rfl cz33
      · -- 8 not: ¬ y = 0
        refine And.intro ⟨by omega, Nat.le_of_ble_eq_true rfl, Nat.le_refl _, Nat.le_refl _⟩ (And.intro (Wdo_142 hW) ?_)
        refine O213 hW hN hdq rfl ?_
        refine And.intro (fun cz12 => ?_) (fun cz12 => False.elim (absurd cz12 (by decide)))
        refine And.intro (Wdo_142 hW) ?_
        rw [pp_10 (x := 142) (by decide)]
        refine And.intro (fun cz20 => ?_) (fun cz20 => ?_)
        · -- 20 taken: ¬ (flD D (nI 1)) 0 9 = nI 5
          exact absurd rfl cz20
        · -- 20 not: (flD D (nI 1)) 0 9 = nI 5
          refine And.intro (Wdo_142 hW) ?_
          rw [pp_10 (x := 142) (by decide)]
          refine And.intro (fun cz33 => ?_) (fun cz33 => ?_)
          · -- 33 taken: (flD D (nI 1)) 0 9 = nI 5
            refine And.intro ⟨by omega, Nat.le_of_ble_eq_true rfl, Nat.le_refl _, Nat.le_refl _⟩ (And.intro (Wdo_142 hW) ?_)
            refine O211 hW hN hdq rfl ?_
            refine And.intro (fun cz51 => ?_) (fun cz51 => False.elim (absurd cz51 (by decide)))
            refine And.intro ⟨rfl, trivial, Nat.le_refl _, Nat.le_refl _⟩ ?_
            have ew : pGround y B n i = .inl (1, plF B n i) := if_neg (fun z => cz3 ((sq_q hT.2.1 (by decide) (by decide)).mpr z))
            exact hQ _ _ _ (by rw [ew]; exact RX_f hR hT) FY_f (fun i2 a j z e => by cases z; rw [ew] at e; cases e)
          · -- 33 not: ¬ (flD D (nI 1)) 0 9 = nI 5
            exact absurd rfl cz33
theorem O227 {d : Nat} {m : Mm} {Q : Option Value → Mm → Prop} {q : Nat} {E : Nat → Nat → Int32} {L : Nat → Nat → Int64} (hW : Wd m.2.2) (hN : NW m.2.2 q) (hdq : q + 29 ≤ 142 ∨ 142 + 3 ≤ q) {D : Nat → Nat → Int32} {K : Nat → Nat → Int64} {y : Int32} {B : Nat → Int32} {n : Nat} {e : Nat × Nat} (hX : RX B n (.inl e) D K) (hd : 8 ≤ d) (hQ : ∀ D1 K1 (v : Int32), RX B n (.inl e) D1 K1 → FY D D1 → (∀ i9 a j, (.inl e : Rs Nat) = .inr i9 → pGround y B n i9 = .inr (a, j) → (a = -nI 2 → v = -nI 1) ∧ (¬ a = -nI 2 → v = a)) → Q (some (.int v)) (pp m 142 3 D1 K1 q 29 E L))  : Cc d 0 0 227 [.ref 142, .int y] (pp m 142 3 D K q 29 E L) Q := by
  refine ent (n := 132) z227 (by decide) rfl (by decide) (Nat.le_of_ble_eq_true rfl) (fun sc => ?_)
  refine And.intro (Wdo_142 hW) ?_
  rw [pp_10 (x := 142) (by decide)]
  refine And.intro (fun cz3 => ?_) (fun cz3 => ?_)
  · -- 3 taken: D 0 9 = nI 2
    rw [hX.2.1] at cz3; exact absurd cz3 (by decide)
  · -- 3 not: ¬ D 0 9 = nI 2
    refine And.intro ⟨by omega, Nat.le_of_ble_eq_true rfl, Nat.le_refl _, Nat.le_refl _⟩ (And.intro (Wdo_142 hW) ?_)
    refine D212 hW hN hdq (fun _ => ?_) (fun z => absurd hX.2.1 z)
    refine And.intro (fun cz8 => ?_) (fun cz8 => ?_)
    · -- 8 taken: y = 0
      refine And.intro (Wdo_142 hW) ?_
      rw [pp_10 (x := 142) (by decide)]
      refine And.intro (fun cz20 => ?_) (fun cz20 => ?_)
      · -- 20 taken: ¬ D 0 9 = nI 5
        exact absurd hX.2.1 cz20
      · -- 20 not: D 0 9 = nI 5
        refine And.intro (Wdo_142 hW) ?_
        rw [pp_10 (x := 142) (by decide)]
        refine And.intro (fun cz33 => ?_) (fun cz33 => ?_)
        · -- 33 taken: D 0 9 = nI 5
          refine And.intro ⟨by omega, Nat.le_of_ble_eq_true rfl, Nat.le_refl _, Nat.le_refl _⟩ (And.intro (Wdo_142 hW) ?_)
          refine O211 hW hN hdq hX.2.1 ?_
          refine And.intro (fun cz51 => ?_) (fun cz51 => False.elim (absurd cz51 (by decide)))
          refine And.intro ⟨rfl, trivial, Nat.le_refl _, Nat.le_refl _⟩ ?_
          exact hQ _ _ _ hX FY_r (fun i a j z => by cases z)
        · -- 33 not: ¬ D 0 9 = nI 5
          exact absurd hX.2.1 cz33
    · -- 8 not: ¬ y = 0
      refine And.intro ⟨by omega, Nat.le_of_ble_eq_true rfl, Nat.le_refl _, Nat.le_refl _⟩ (And.intro (Wdo_142 hW) ?_)
      refine O213 hW hN hdq hX.2.1 ?_
      refine And.intro (fun cz12 => ?_) (fun cz12 => False.elim (absurd cz12 (by decide)))
      refine And.intro (Wdo_142 hW) ?_
      rw [pp_10 (x := 142) (by decide)]
      refine And.intro (fun cz20 => ?_) (fun cz20 => ?_)
      · -- 20 taken: ¬ D 0 9 = nI 5
        exact absurd hX.2.1 cz20
      · -- 20 not: D 0 9 = nI 5
        refine And.intro (Wdo_142 hW) ?_
        rw [pp_10 (x := 142) (by decide)]
        refine And.intro (fun cz33 => ?_) (fun cz33 => ?_)
        · -- 33 taken: D 0 9 = nI 5
          refine And.intro ⟨by omega, Nat.le_of_ble_eq_true rfl, Nat.le_refl _, Nat.le_refl _⟩ (And.intro (Wdo_142 hW) ?_)
          refine O211 hW hN hdq hX.2.1 ?_
          refine And.intro (fun cz51 => ?_) (fun cz51 => False.elim (absurd cz51 (by decide)))
          refine And.intro ⟨rfl, trivial, Nat.le_refl _, Nat.le_refl _⟩ ?_
          exact hQ _ _ _ hX FY_r (fun i a j z => by cases z)
        · -- 33 not: ¬ D 0 9 = nI 5
          exact absurd hX.2.1 cz33
theorem X227 {d : Nat} {m : Mm} {Q : Option Value → Mm → Prop} {q : Nat} {E : Nat → Nat → Int32} {L : Nat → Nat → Int64} (hW : Wd m.2.2) (hN : NW m.2.2 q) (hdq : q + 29 ≤ 142 ∨ 142 + 3 ≤ q) {D : Nat → Nat → Int32} {K : Nat → Nat → Int64} {y : Int32} {B : Nat → Int32} {n : Nat} {X : Rs Nat} (hX : RX B n X D K) (hd : 8 ≤ d) (hQ : ∀ D1 K1 (v : Int32), RX B n (rb X (fun i => rb (pGround y B n i) fun a => .inr a.2)) D1 K1 → FY D D1 → (∀ i9 a j, X = .inr i9 → pGround y B n i9 = .inr (a, j) → (a = -nI 2 → v = -nI 1) ∧ (¬ a = -nI 2 → v = a)) → Q (some (.int v)) (pp m 142 3 D1 K1 q 29 E L)) : Cc d 0 0 227 [.ref 142, .int y] (pp m 142 3 D K q 29 E L) Q := by
  cases X with
  | inl e => exact O227 hW hN hdq  hX hd hQ
  | inr i => exact L227 hW hN hdq  hX.1 hX.2.1 hX.2.2.1 hX.2.2.2 hd hQ
def bgF (x y w : Int32) (B : Nat → Int32) (n i : Nat) : Rs Nat := if x = y then .inl (5, plF B n i) else if w = 0 then .inl (6, plF B n i) else .inr (nxF B n i)
theorem L220 {d : Nat} {m : Mm} {Q : Option Value → Mm → Prop} {q : Nat} {E : Nat → Nat → Int32} {L : Nat → Nat → Int64} (hW : Wd m.2.2) (hN : NW m.2.2 q) (hdq : q + 29 ≤ 142 ∨ 142 + 3 ≤ q) {D : Nat → Nat → Int32} {K : Nat → Nat → Int64} {x y : Int32} (hq4 : va_rf (mR m 142 4) = .ref q) {B : Nat → Int32} {n i : Nat} (hR : RBy B n D) (hT : TR B n i D K) (hi : i ≤ n) (h14 : D 0 14 = nI 0) (kk2 : kiF B n i = 2) (hd : 6 ≤ d) (hQ : ∀ D1 K1, RX B n (bgF x y (E 0 0) B n i) D1 K1 → FY D D1 → Q none (pp m 142 3 D1 K1 q 29 E L)) : Cc d 0 0 220 [.ref 142, .int x, .int y] (pp m 142 3 D K q 29 E L) Q := by
  refine ent (n := 52) z220 (by decide) rfl (by decide) (Nat.le_of_ble_eq_true rfl) (fun sc => ?_)
  refine And.intro (fun cz2 => ?_) (fun cz2 => ?_)
  · -- 2 taken: ¬ x = y
    refine And.intro (Wdo_142 hW) (Exists.intro _ (And.intro hq4 ?_))
    refine And.intro (NWo_0 hN) ?_
    rw [pp_20 (y := q) (by omega) (by decide)]
    refine And.intro (fun cz9 => ?_) (fun cz9 => ?_)
    · -- 9 taken: ¬ E 0 0 = 0
      refine And.intro ⟨by omega, Nat.le_of_ble_eq_true rfl, Nat.le_refl _, Nat.le_refl _⟩ (And.intro (Wdo_142 hW) ?_)
      have h8 : D 0 8 = nI (nxF B n i) := hT.2.2.1 (by omega)
      refine D211 (B := B) (n := n) (i := nxF B n i) hW hN hdq (by omega) hR (nxF_le hi) (fun D1 K1 uT uX => ?_) h8 (sq_5 hT.2.1)
      · -- a way behind the call
        refine And.intro ⟨rfl, rfl, Nat.le_refl _, Nat.le_refl _⟩ ?_
        exact hQ _ _ (by rw [show bgF x y (E 0 0) B n i = .inr (nxF B n i) by unfold bgF; rw [if_neg cz2, if_neg cz9]]; exact (RX_l hR uX uT (nxF_le hi) h14)) (FY_x uX)
    · -- 9 not: E 0 0 = 0
      refine And.intro ⟨by omega, Nat.le_of_ble_eq_true rfl, Nat.le_refl _, Nat.le_refl _⟩ (And.intro (Wdo_142 hW) ?_)
      refine D212 hW hN hdq (fun z => absurd z (sq_5 hT.2.1)) (fun _ => ?_)
      · -- a way behind the call
        rw [show (ud (ud (ud D 0 14 (nI 6)) 0 15 (D 0 10)) 0 9 (nI 5)) = flD D (nI 6) from rfl]
        refine And.intro ⟨by omega, Nat.le_of_ble_eq_true rfl, Nat.le_refl _, Nat.le_refl _⟩ (And.intro (Wdo_142 hW) ?_)
        refine O211 hW hN hdq rfl ?_
        refine And.intro ⟨rfl, rfl, Nat.le_refl _, Nat.le_refl _⟩ ?_
        exact hQ _ _ (by rw [show bgF x y (E 0 0) B n i = .inl (6, plF B n i) by unfold bgF; rw [if_neg cz2, if_pos cz9]]; exact RX_f hR hT) FY_f
  · -- 2 not: x = y
    refine And.intro ⟨by omega, Nat.le_of_ble_eq_true rfl, Nat.le_refl _, Nat.le_refl _⟩ (And.intro (Wdo_142 hW) ?_)
    refine D212 hW hN hdq (fun z => absurd z (sq_5 hT.2.1)) (fun _ => ?_)
    · -- a way behind the call
      rw [show (ud (ud (ud D 0 14 (nI 5)) 0 15 (D 0 10)) 0 9 (nI 5)) = flD D (nI 5) from rfl]
      refine And.intro (Wdo_142 hW) (Exists.intro _ (And.intro hq4 ?_))
      refine And.intro (NWo_0 hN) ?_
      rw [pp_20 (y := q) (by omega) (by decide)]
      refine And.intro (fun cz9 => ?_) (fun cz9 => ?_)
      · -- 9 taken: ¬ E 0 0 = 0
        refine And.intro ⟨by omega, Nat.le_of_ble_eq_true rfl, Nat.le_refl _, Nat.le_refl _⟩ (And.intro (Wdo_142 hW) ?_)
        refine O211 hW hN hdq rfl ?_
        refine And.intro ⟨rfl, rfl, Nat.le_refl _, Nat.le_refl _⟩ ?_
        exact hQ _ _ (by rw [show bgF x y (E 0 0) B n i = .inl (5, plF B n i) from if_pos cz2]; exact RX_f hR hT) FY_f
      · -- 9 not: E 0 0 = 0
        refine And.intro ⟨by omega, Nat.le_of_ble_eq_true rfl, Nat.le_refl _, Nat.le_refl _⟩ (And.intro (Wdo_142 hW) ?_)
        refine D212 hW hN hdq (fun _ => ?_) (fun z => absurd rfl z)
        refine And.intro ⟨by omega, Nat.le_of_ble_eq_true rfl, Nat.le_refl _, Nat.le_refl _⟩ (And.intro (Wdo_142 hW) ?_)
        refine O211 hW hN hdq rfl ?_
        refine And.intro ⟨rfl, rfl, Nat.le_refl _, Nat.le_refl _⟩ ?_
        exact hQ _ _ (by rw [show bgF x y (E 0 0) B n i = .inl (5, plF B n i) from if_pos cz2]; exact RX_f hR hT) FY_f
theorem O220 {d : Nat} {m : Mm} {Q : Option Value → Mm → Prop} {q : Nat} {E : Nat → Nat → Int32} {L : Nat → Nat → Int64} (hW : Wd m.2.2) (hN : NW m.2.2 q) (hdq : q + 29 ≤ 142 ∨ 142 + 3 ≤ q) {D : Nat → Nat → Int32} {K : Nat → Nat → Int64} {x y : Int32} {B : Nat → Int32} {n : Nat} {e : Nat × Nat} (hq4 : va_rf (mR m 142 4) = .ref q) (hX : RX B n (.inl e) D K) (hd : 6 ≤ d) (hQ : Q none (pp m 142 3 D K q 29 E L)) : Cc d 0 0 220 [.ref 142, .int x, .int y] (pp m 142 3 D K q 29 E L) Q := by
  refine ent (n := 52) z220 (by decide) rfl (by decide) (Nat.le_of_ble_eq_true rfl) (fun sc => ?_)
  refine And.intro (fun cz2 => ?_) (fun cz2 => ?_)
  · -- 2 taken: ¬ x = y
    refine And.intro (Wdo_142 hW) (Exists.intro _ (And.intro hq4 ?_))
    refine And.intro (NWo_0 hN) ?_
    rw [pp_20 (y := q) (by omega) (by decide)]
    refine And.intro (fun cz9 => ?_) (fun cz9 => ?_)
    · -- 9 taken: ¬ E 0 0 = 0
      refine And.intro ⟨by omega, Nat.le_of_ble_eq_true rfl, Nat.le_refl _, Nat.le_refl _⟩ (And.intro (Wdo_142 hW) ?_)
      refine O211 hW hN hdq hX.2.1 ?_
      refine And.intro ⟨rfl, rfl, Nat.le_refl _, Nat.le_refl _⟩ ?_
      exact hQ
    · -- 9 not: E 0 0 = 0
      refine And.intro ⟨by omega, Nat.le_of_ble_eq_true rfl, Nat.le_refl _, Nat.le_refl _⟩ (And.intro (Wdo_142 hW) ?_)
      refine D212 hW hN hdq (fun _ => ?_) (fun z => absurd hX.2.1 z)
      refine And.intro ⟨by omega, Nat.le_of_ble_eq_true rfl, Nat.le_refl _, Nat.le_refl _⟩ (And.intro (Wdo_142 hW) ?_)
      refine O211 hW hN hdq hX.2.1 ?_
      refine And.intro ⟨rfl, rfl, Nat.le_refl _, Nat.le_refl _⟩ ?_
      exact hQ
  · -- 2 not: x = y
    refine And.intro ⟨by omega, Nat.le_of_ble_eq_true rfl, Nat.le_refl _, Nat.le_refl _⟩ (And.intro (Wdo_142 hW) ?_)
    refine D212 hW hN hdq (fun _ => ?_) (fun z => absurd hX.2.1 z)
    refine And.intro (Wdo_142 hW) (Exists.intro _ (And.intro hq4 ?_))
    refine And.intro (NWo_0 hN) ?_
    rw [pp_20 (y := q) (by omega) (by decide)]
    refine And.intro (fun cz9 => ?_) (fun cz9 => ?_)
    · -- 9 taken: ¬ E 0 0 = 0
      refine And.intro ⟨by omega, Nat.le_of_ble_eq_true rfl, Nat.le_refl _, Nat.le_refl _⟩ (And.intro (Wdo_142 hW) ?_)
      refine O211 hW hN hdq hX.2.1 ?_
      refine And.intro ⟨rfl, rfl, Nat.le_refl _, Nat.le_refl _⟩ ?_
      exact hQ
    · -- 9 not: E 0 0 = 0
      refine And.intro ⟨by omega, Nat.le_of_ble_eq_true rfl, Nat.le_refl _, Nat.le_refl _⟩ (And.intro (Wdo_142 hW) ?_)
      refine D212 hW hN hdq (fun _ => ?_) (fun z => absurd hX.2.1 z)
      refine And.intro ⟨by omega, Nat.le_of_ble_eq_true rfl, Nat.le_refl _, Nat.le_refl _⟩ (And.intro (Wdo_142 hW) ?_)
      refine O211 hW hN hdq hX.2.1 ?_
      refine And.intro ⟨rfl, rfl, Nat.le_refl _, Nat.le_refl _⟩ ?_
      exact hQ
