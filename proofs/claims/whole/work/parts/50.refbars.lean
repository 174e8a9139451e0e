theorem bars_o {X : Rs Nat} {g h : Nat → Rs (Int32 × Nat)} {p : Nat → Nat × Nat} {e : Nat × Nat} {α : Type} {F : (Int32 × Nat) → (Int32 × Nat) → Rs α} (hE : rb X (fun i => rb (g i) fun a => rb (h a.2) fun b => if b.1 = a.1 then .inl (p a.2) else (.inr a.2 : Rs Nat)) = .inl e) : rb X (fun i => rb (g i) fun a => rb (h a.2) fun b => if b.1 = a.1 then .inl (p a.2) else F a b) = .inl e := by
  cases X with
  | inl f => exact congrArg Sum.inl (Sum.inl.inj hE)
  | inr i =>
    change rb (g i) _ = _ at hE
    show rb (g i) _ = _
    cases hg : g i with
    | inl f => rw [hg] at hE; exact congrArg Sum.inl (Sum.inl.inj hE)
    | inr a =>
      rw [hg] at hE
      change rb (h a.2) _ = _ at hE
      show rb (h a.2) _ = _
      cases hh : h a.2 with
      | inl f => rw [hh] at hE; exact congrArg Sum.inl (Sum.inl.inj hE)
      | inr b =>
        rw [hh] at hE
        change (if b.1 = a.1 then Sum.inl (p a.2) else (Sum.inr a.2 : Rs Nat)) = _ at hE
        show (if b.1 = a.1 then Sum.inl (p a.2) else F a b) = _
        by_cases hc : b.1 = a.1
        · rw [if_pos hc] at hE ⊢
          exact congrArg Sum.inl (Sum.inl.inj hE)
        · rw [if_neg hc] at hE
          cases hE
theorem L237 {d : Nat} {m : Mm} {Q : Option Value → Mm → Prop} {q : Nat} {E : Nat → Nat → Int32} {L : Nat → Nat → Int64} (hW : Wd m.2.2) (hN : NW m.2.2 q) (hdq : q + 29 ≤ 142 ∨ 142 + 3 ≤ q) {D : Nat → Nat → Int32} {K : Nat → Nat → Int64} {Λ : Nat → Nat → Int32} {T : NT} (hq4 : va_rf (mR m 142 4) = .ref q) (hLQ : LQ Λ E) (hNR : NR T E L) (hI : LRI T Λ) {B : Nat → Int32} {n i : Nat} (hR : RBy B n D) (hT : TR B n i D K) (hi : i ≤ n) (h14 : D 0 14 = nI 0) (kk2 : kiF B n i = 2) (hd : 13 ≤ d) (hQ : ∀ D1 K1 E1 L1, FY D D1 → lnPt B n 7 (rb (bgF (nI (nv (Λ 1 7))) (nI 6) (E 0 0) B n i) (fun i => barsL T Λ B n i)) D1 K1 E1 L1 → Q none (pp m 142 3 D1 K1 q 29 E1 L1)) : Cc d 0 0 237 [.ref 142] (pp m 142 3 D K q 29 E L) Q := by
  obtain ⟨hL0, hL1, hL2, hL3, hL4, hL5, hL6, hL7, hL8, hL9, hL10, hL11, hL12⟩ := hLQ
  obtain ⟨hC, hWI, hNN, hVI⟩ := hI
  obtain ⟨hn0, hTS2, hTS4, hTS8⟩ := hNN
  have hc2q := hC 2 (by decide)
  have hc4q := hC 4 (by decide)
  have hc8q := hC 8 (by decide)
  have hc10q := hC 10 (by decide)
  have hc7q := hC 7 (by decide)
  refine ent (n := 132) z237 (by decide) rfl (by decide) (Nat.le_of_ble_eq_true rfl) (fun sc => ?_)
  refine And.intro (Wdo_142 hW) (Exists.intro _ (And.intro hq4 ?_))
  refine And.intro (NWo_0 hN) ?_
  rw [pp_20 (y := q) (by omega) (by decide)]
  rw [(show E 0 9 = nI (nv (Λ 1 7)) from hL0.2.2.2.2.2.2.2.2.2.1.trans hc7q.1)]
  refine And.intro ⟨by omega, Nat.le_of_ble_eq_true rfl, Nat.le_refl _, Nat.le_refl _⟩ (And.intro (Wdo_142 hW) ?_)
  refine L220 hW hN hdq hq4 hR hT hi h14 kk2 (by omega) (fun D5r K5r hX5 hy5 => ?_)
  generalize eX5 : bgF (nI ((nv (Λ 1 7)))) (nI 6) (E 0 0) B n i = X5r at hX5
  · -- a way behind the call
    refine And.intro ⟨by omega, Nat.le_of_ble_eq_true rfl, Nat.le_refl _, Nat.le_refl _⟩ (And.intro (Wdo_142 hW) ?_)
    refine X224 (so := 4) hW hN hdq (by decide) hq4 hNR hX5 (by omega) (fun D8r K8r v8r hX8 hy8 hv8 => ?_)
    generalize eX8 : rb X5r (fun i => rb (tUse T 4 B n i) fun a => .inr a.2) = X8r at hX8
    · -- a way behind the call
      refine And.intro ⟨by omega, Nat.le_of_ble_eq_true rfl, Nat.le_refl _, Nat.le_refl _⟩ (And.intro (Wdo_142 hW) ?_)
      refine X225 (so := 4) hW hN hdq (by decide) hq4 hNR hX8 (by omega) (fun D13r K13r v13r hX13 hy13 hv13 => ?_)
      generalize eX13 : rb X8r (fun i => rb (tUse T 4 B n i) fun a => if a.1 = v8r then .inl (3, plF B n i) else .inr i) = X13r at hX13
      · -- a way behind the call
        refine And.intro (Wdo_142 hW) ?_
        rw [pp_10 (x := 142) (by decide)]
        refine And.intro (fun cz18 => ?_) (fun cz18 => ?_)
        · -- 18 taken: D13r 0 9 = nI 5
          obtain ⟨er, ee⟩ := RX_5 hX13 cz18
          rw [ee] at hX13
          refine And.intro ⟨by omega, Nat.le_of_ble_eq_true rfl, Nat.le_refl _, Nat.le_refl _⟩ (And.intro (Wdo_142 hW) ?_)
          refine X211 hW hN hdq hX13 (fun i e => by cases e) (by omega) (fun D31r K31r hX31 hy31 => ?_)
          · -- a way behind the call
            change RX B n (.inl er) _ _ at hX31
            refine And.intro (Wdo_142 hW) ?_
            rw [pp_10 (x := 142) (by decide)]
            refine And.intro (fun cz35 => ?_) (fun cz35 => ?_)
            · -- 35 taken: ¬ D31r 0 9 = nI 5
              exact absurd hX31.2.1 cz35
            · -- 35 not: D31r 0 9 = nI 5
              refine And.intro ⟨rfl, rfl, Nat.le_refl _, Nat.le_refl _⟩ ?_
              have hB : rb (rb X5r (fun i => rb (tUse T 4 B n i) fun a => .inr a.2)) (fun i => rb (tUse T 4 B n i) fun a => if a.1 = v8r then (.inl (3, plF B n i) : Rs Nat) else .inr i) = _ := bindv (F := fun v i => rb (tUse T 4 B n i) fun a => if a.1 = v then (.inl (3, plF B n i) : Rs Nat) else .inr i) hv8
              rw [← eX8, hB, ← eX5] at eX13
              have hS : rb (bgF (nI (nv (Λ 1 7))) (nI 6) (E 0 0) B n i) (fun i => barsL T Λ B n i) = .inl er := bars_o (p := fun z => (3, plF B n z)) (eX13.trans ee)
              refine hQ _ _ _ _ (FY_t (FY_t (FY_t hy5 hy8) hy13) hy31) ?_
              rw [hS]
              exact hX31
        · -- 18 not: ¬ D13r 0 9 = nI 5
          obtain ⟨i1r, ei1⟩ := RX_n hX13 cz18
          obtain ⟨p13r, pe13, ph13⟩ := rb_r (eX13.trans ei1)
          obtain ⟨⟨a13r, q13r⟩, pf13, pg13⟩ := rb_r ph13
          have vv13 := hv13 _ _ _ pe13 pf13
          have hne : ¬ a13r = v8r := fun z => by have w9 : (.inl (3, plF B n p13r) : Rs Nat) = .inr i1r := (if_pos (c := a13r = v8r) z).symm.trans pg13; cases w9
          have pg13x : p13r = i1r := Sum.inr.inj ((if_neg (c := a13r = v8r) hne).symm.trans pg13)
          obtain ⟨p8r, pe8, ph8⟩ := rb_r (eX8.trans pe13)
          obtain ⟨⟨a8r, q8r⟩, pf8, pg8⟩ := rb_r ph8
          have vv8 := hv8 _ _ _ pe8 pf8
          have pg8x : q8r = p13r := Sum.inr.inj pg8
          have eb := eX5.trans pe8
          obtain ⟨hb1, hb2, hb3⟩ := bgF_r eb
          subst vv8
          subst vv13
          have hcn : nv (Λ 1 4) ≤ 6 := hc4q.2
          have iv8 := TS_u hTS4 (by omega) pf8
          have iv13 := TS_u hTS4 (by omega) pf13
          rw [ei1] at hX13
          have h9x : E 9 (nv v8r) = Λ 8 (nv v8r) := hL7 _ (by omega)
          have hq13 : q13r = nxF B n i1r := by rw [← pg13x]; exact (tUse_2 pf13).2
          refine And.intro (Wdo_142 hW) (Exists.intro _ (And.intro hq4 ?_))
          refine And.intro (NWo_0 hN) (Exists.intro _ (And.intro (NWr_0_25 hN) ?_))
          refine And.intro (NWi_9 hN (vi iv8.1 (by omega))) ?_
          rw [vc iv8.1 (by omega)]
          rw [pp_2 (y := q) (f := 9) (by omega) (by decide)]
          refine And.intro ⟨by omega, Nat.le_of_ble_eq_true rfl, Nat.le_refl _, Nat.le_refl _⟩ ?_
          refine C205 (m := (pp m 142 3 D13r K13r q 29 E L)) ?_
          refine And.intro (fun cz26 => ?_) (fun cz26 => ?_)
          · -- 26 taken: bi (bq (E 9 ((nv v8r))) v13r) = 0
            refine And.intro ⟨by omega, Nat.le_of_ble_eq_true rfl, Nat.le_refl _, Nat.le_refl _⟩ (And.intro (Wdo_142 hW) ?_)
            refine X211 hW hN hdq hX13 (fun i e => by rw [← Sum.inr.inj e, ← pg13x, (tUse_2 pf13).1]; decide) (by omega) (fun D31r K31r hX31 hy31 => ?_)
            · -- a way behind the call
              change RX B n (.inr (nxF B n i1r)) _ _ at hX31
              refine And.intro (Wdo_142 hW) ?_
              rw [pp_10 (x := 142) (by decide)]
              refine And.intro (fun cz35 => ?_) (fun cz35 => ?_)
              · -- 35 taken: ¬ D31r 0 9 = nI 5
                refine And.intro (Wdo_142 hW) (Exists.intro _ (And.intro hq4 ?_))
                refine And.intro (NWo_0 hN) (Exists.intro _ (And.intro (NWr_0_25 hN) ?_))
                refine And.intro ⟨rfl, rfl⟩ ?_
                refine And.intro (NWi_9 hN (vi iv8.1 (by omega))) ?_
                rw [vc iv8.1 (by omega)]
                rw [pp_2 (y := q) (f := 9) (by omega) (by decide)]
                refine And.intro (NWi_9 hN (vi iv8.1 (by omega))) ?_
                rw [vc iv8.1 (by omega)]
                rw [pp_u2 (y := q) (f := 9) (by omega) (by decide)]
                refine And.intro (Wdo_142 hW) (Exists.intro _ (And.intro hq4 ?_))
                refine And.intro rfl ?_
                refine And.intro (NWo_0 hN) ?_
                rw [pp_20 (y := q) (by omega) (by decide)]
                rw [ud_ne (D := E) (f := 9) (g := 0) (by decide)]
                rw [(show E 0 9 = nI (nv (Λ 1 7)) from hL0.2.2.2.2.2.2.2.2.2.1.trans hc7q.1)]
                refine And.intro (NWo_0 hN) ?_
                rw [pp_u20 (y := q) (by omega) (by decide)]
                refine And.intro ⟨rfl, rfl, Nat.le_refl _, Nat.le_refl _⟩ ?_
                have hbq := bi_eq0.mp cz26
                rw [h9x] at hbq
                have hS : rb (bgF (nI (nv (Λ 1 7))) (nI 6) (E 0 0) B n i) (fun i => barsL T Λ B n i) = .inr (T, ud Λ 8 (nv v8r) (Λ 8 (nv v8r) ||| nI 1 <<< (v13r &&& 31)), q13r) := by
                  simp only [barsL, eb, pf8, pg8x, pf13, rb_i, if_neg hne, if_neg hbq]
                rw [← hq13] at hX31
                refine hQ _ _ _ _ (FY_t (FY_t (FY_t hy5 hy8) hy13) hy31) ?_
                rw [hS]
                have hco := hL0.2.2.2.2.2.2.2.2.2.1
                refine ⟨hX31, hNR, ⟨⟨hL0.1, hL0.2.1, hL0.2.2.1, hL0.2.2.2.1, hL0.2.2.2.2.1, hL0.2.2.2.2.2.1, hL0.2.2.2.2.2.2.1, hL0.2.2.2.2.2.2.2.1, hL0.2.2.2.2.2.2.2.2.1, ?_, hL0.2.2.2.2.2.2.2.2.2.2.1, hL0.2.2.2.2.2.2.2.2.2.2.2.1, hL0.2.2.2.2.2.2.2.2.2.2.2.2.1, hL0.2.2.2.2.2.2.2.2.2.2.2.2.2.1, hL0.2.2.2.2.2.2.2.2.2.2.2.2.2.2⟩, hL1, hL2, hL3, hL4, hL5, hL6, fun g hg => ?_, hL8, hL9, hL10, hL11, hL12⟩⟩
                · show _ + nI 1 = Λ 1 7 + nI 1
                  first | rfl | exact congrArg (fun z => z + nI 1) hco | (rw [← hc7q.1])
                · show upd (E 9) (nv v8r) (E 9 (nv v8r) ||| nI 1 <<< (v13r &&& 31)) g = upd (Λ 8) (nv v8r) (Λ 8 (nv v8r) ||| nI 1 <<< (v13r &&& 31)) g
                  rw [h9x]
                  exact upd_q (fun _ => hL7 g hg)
              · -- 35 not: D31r 0 9 = nI 5
                exact absurd cz35 (sq_5 hX31.2.1.2.1)
          · -- 26 not: ¬ bi (bq (E 9 ((nv v8r))) v13r) = 0
            refine And.intro ⟨by omega, Nat.le_of_ble_eq_true rfl, Nat.le_refl _, Nat.le_refl _⟩ (And.intro (Wdo_142 hW) ?_)
            refine X212 (f := 3) hW hN hdq hX13 (fun D29r hX29 hy29 => ?_)
            · -- a way behind the call
              refine And.intro ⟨by omega, Nat.le_of_ble_eq_true rfl, Nat.le_refl _, Nat.le_refl _⟩ (And.intro (Wdo_142 hW) ?_)
              refine X211 hW hN hdq hX29 (fun i e => by change (Sum.inl _ : Rs Nat) = _ at e; cases e) (by omega) (fun D31r K31r hX31 hy31 => ?_)
              · -- a way behind the call
                change RX B n (.inl (3, plF B n i1r)) _ _ at hX31
                refine And.intro (Wdo_142 hW) ?_
                rw [pp_10 (x := 142) (by decide)]
                refine And.intro (fun cz35 => ?_) (fun cz35 => ?_)
                · -- 35 taken: ¬ D31r 0 9 = nI 5
                  exact absurd hX31.2.1 cz35
                · -- 35 not: D31r 0 9 = nI 5
                  refine And.intro ⟨rfl, rfl, Nat.le_refl _, Nat.le_refl _⟩ ?_
                  have hbq := bi_ne0.mp cz26
                  rw [h9x] at hbq
                  have hS : rb (bgF (nI (nv (Λ 1 7))) (nI 6) (E 0 0) B n i) (fun i => barsL T Λ B n i) = .inl (3, plF B n p13r) := by
                    simp only [barsL, eb, pf8, pg8x, pf13, rb_i, if_neg hne, if_pos hbq]
                  rw [pg13x] at hS
                  refine hQ _ _ _ _ (FY_t (FY_t (FY_t (FY_t hy5 hy8) hy13) hy29) hy31) ?_
                  rw [hS]
                  exact hX31
theorem L239 {d : Nat} {m : Mm} {Q : Option Value → Mm → Prop} {q : Nat} {E : Nat → Nat → Int32} {L : Nat → Nat → Int64} (hW : Wd m.2.2) (hN : NW m.2.2 q) (hdq : q + 29 ≤ 142 ∨ 142 + 3 ≤ q) {D : Nat → Nat → Int32} {K : Nat → Nat → Int64} {Λ : Nat → Nat → Int32} {T : NT} (hq4 : va_rf (mR m 142 4) = .ref q) (hLQ : LQ Λ E) (hNR : NR T E L) (hI : LRI T Λ) {B : Nat → Int32} {n i : Nat} (hR : RBy B n D) (hT : TR B n i D K) (hi : i ≤ n) (h14 : D 0 14 = nI 0) (kk2 : kiF B n i = 2) (hd : 13 ≤ d) (hQ : ∀ D1 K1 E1 L1, FY D D1 → lnPt B n 9 (rb (bgF (nI (nv (Λ 1 9))) (nI 8) (E 0 0) B n i) (fun i => clashL T Λ B n i)) D1 K1 E1 L1 → Q none (pp m 142 3 D1 K1 q 29 E1 L1)) : Cc d 0 0 239 [.ref 142] (pp m 142 3 D K q 29 E L) Q := by
  obtain ⟨hL0, hL1, hL2, hL3, hL4, hL5, hL6, hL7, hL8, hL9, hL10, hL11, hL12⟩ := hLQ
  obtain ⟨hC, hWI, hNN, hVI⟩ := hI
  obtain ⟨hn0, hTS2, hTS4, hTS8⟩ := hNN
  have hc2q := hC 2 (by decide)
  have hc4q := hC 4 (by decide)
  have hc8q := hC 8 (by decide)
  have hc10q := hC 10 (by decide)
  have hc9q := hC 9 (by decide)
  refine ent (n := 154) z239 (by decide) rfl (by decide) (Nat.le_of_ble_eq_true rfl) (fun sc => ?_)
  refine And.intro (Wdo_142 hW) (Exists.intro _ (And.intro hq4 ?_))
  refine And.intro (NWo_0 hN) ?_
  rw [pp_20 (y := q) (by omega) (by decide)]
  rw [(show E 0 11 = nI (nv (Λ 1 9)) from hL0.2.2.2.2.2.2.2.2.2.2.2.1.trans hc9q.1)]
  refine And.intro ⟨by omega, Nat.le_of_ble_eq_true rfl, Nat.le_refl _, Nat.le_refl _⟩ (And.intro (Wdo_142 hW) ?_)
  refine L220 hW hN hdq hq4 hR hT hi h14 kk2 (by omega) (fun D5r K5r hX5 hy5 => ?_)
  generalize eX5 : bgF (nI ((nv (Λ 1 9)))) (nI 8) (E 0 0) B n i = X5r at hX5
  · -- a way behind the call
    refine And.intro ⟨by omega, Nat.le_of_ble_eq_true rfl, Nat.le_refl _, Nat.le_refl _⟩ (And.intro (Wdo_142 hW) ?_)
    refine X224 (so := 8) hW hN hdq (by decide) hq4 hNR hX5 (by omega) (fun D8r K8r v8r hX8 hy8 hv8 => ?_)
    generalize eX8 : rb X5r (fun i => rb (tUse T 8 B n i) fun a => .inr a.2) = X8r at hX8
    · -- a way behind the call
      refine And.intro ⟨by omega, Nat.le_of_ble_eq_true rfl, Nat.le_refl _, Nat.le_refl _⟩ (And.intro (Wdo_142 hW) ?_)
      refine X225 (so := 8) hW hN hdq (by decide) hq4 hNR hX8 (by omega) (fun D13r K13r v13r hX13 hy13 hv13 => ?_)
      generalize eX13 : rb X8r (fun i => rb (tUse T 8 B n i) fun a => if a.1 = v8r then .inl (3, plF B n i) else .inr i) = X13r at hX13
      · -- a way behind the call
        refine And.intro (Wdo_142 hW) ?_
        rw [pp_10 (x := 142) (by decide)]
        refine And.intro (fun cz18 => ?_) (fun cz18 => ?_)
        · -- 18 taken: D13r 0 9 = nI 5
          obtain ⟨er, ee⟩ := RX_5 hX13 cz18
          rw [ee] at hX13
          refine And.intro ⟨by omega, Nat.le_of_ble_eq_true rfl, Nat.le_refl _, Nat.le_refl _⟩ (And.intro (Wdo_142 hW) ?_)
          refine X211 hW hN hdq hX13 (fun i e => by cases e) (by omega) (fun D31r K31r hX31 hy31 => ?_)
          · -- a way behind the call
            change RX B n (.inl er) _ _ at hX31
            refine And.intro (Wdo_142 hW) ?_
            rw [pp_10 (x := 142) (by decide)]
            refine And.intro (fun cz35 => ?_) (fun cz35 => ?_)
            · -- 35 taken: ¬ D31r 0 9 = nI 5
              exact absurd hX31.2.1 cz35
            · -- 35 not: D31r 0 9 = nI 5
              refine And.intro ⟨rfl, rfl, Nat.le_refl _, Nat.le_refl _⟩ ?_
              have hB : rb (rb X5r (fun i => rb (tUse T 8 B n i) fun a => .inr a.2)) (fun i => rb (tUse T 8 B n i) fun a => if a.1 = v8r then (.inl (3, plF B n i) : Rs Nat) else .inr i) = _ := bindv (F := fun v i => rb (tUse T 8 B n i) fun a => if a.1 = v then (.inl (3, plF B n i) : Rs Nat) else .inr i) hv8
              rw [← eX8, hB, ← eX5] at eX13
              have hS : rb (bgF (nI (nv (Λ 1 9))) (nI 8) (E 0 0) B n i) (fun i => clashL T Λ B n i) = .inl er := bars_o (p := fun z => (3, plF B n z)) (eX13.trans ee)
              refine hQ _ _ _ _ (FY_t (FY_t (FY_t hy5 hy8) hy13) hy31) ?_
              rw [hS]
              exact hX31
        · -- 18 not: ¬ D13r 0 9 = nI 5
          obtain ⟨i1r, ei1⟩ := RX_n hX13 cz18
          obtain ⟨p13r, pe13, ph13⟩ := rb_r (eX13.trans ei1)
          obtain ⟨⟨a13r, q13r⟩, pf13, pg13⟩ := rb_r ph13
          have vv13 := hv13 _ _ _ pe13 pf13
          have hne : ¬ a13r = v8r := fun z => by have w9 : (.inl (3, plF B n p13r) : Rs Nat) = .inr i1r := (if_pos (c := a13r = v8r) z).symm.trans pg13; cases w9
          have pg13x : p13r = i1r := Sum.inr.inj ((if_neg (c := a13r = v8r) hne).symm.trans pg13)
          obtain ⟨p8r, pe8, ph8⟩ := rb_r (eX8.trans pe13)
          obtain ⟨⟨a8r, q8r⟩, pf8, pg8⟩ := rb_r ph8
          have vv8 := hv8 _ _ _ pe8 pf8
          have pg8x : q8r = p13r := Sum.inr.inj pg8
          have eb := eX5.trans pe8
          obtain ⟨hb1, hb2, hb3⟩ := bgF_r eb
          subst vv8
          subst vv13
          have hcn : nv (Λ 1 8) ≤ 8 := hc8q.2
          have iv8 := TS_u hTS8 (by omega) pf8
          have iv13 := TS_u hTS8 (by omega) pf13
          rw [ei1] at hX13
          have h9x : E 17 (nv v8r) = Λ 10 (nv v8r) := hL9 _ (by omega)
          have hq13 : q13r = nxF B n i1r := by rw [← pg13x]; exact (tUse_2 pf13).2
          refine And.intro (Wdo_142 hW) (Exists.intro _ (And.intro hq4 ?_))
          refine And.intro (NWo_0 hN) (Exists.intro _ (And.intro (NWr_0_33 hN) ?_))
          refine And.intro (NWi_17 hN (vi iv8.1 (by omega))) ?_
          rw [vc iv8.1 (by omega)]
          rw [pp_2 (y := q) (f := 17) (by omega) (by decide)]
          refine And.intro ⟨by omega, Nat.le_of_ble_eq_true rfl, Nat.le_refl _, Nat.le_refl _⟩ ?_
          refine C205 (m := (pp m 142 3 D13r K13r q 29 E L)) ?_
          refine And.intro (fun cz26 => ?_) (fun cz26 => ?_)
          · -- 26 taken: bi (bq (E 17 ((nv v8r))) v13r) = 0
            refine And.intro ⟨by omega, Nat.le_of_ble_eq_true rfl, Nat.le_refl _, Nat.le_refl _⟩ (And.intro (Wdo_142 hW) ?_)
            refine X211 hW hN hdq hX13 (fun i e => by rw [← Sum.inr.inj e, ← pg13x, (tUse_2 pf13).1]; decide) (by omega) (fun D31r K31r hX31 hy31 => ?_)
            · -- a way behind the call
              change RX B n (.inr (nxF B n i1r)) _ _ at hX31
              refine And.intro (Wdo_142 hW) ?_
              rw [pp_10 (x := 142) (by decide)]
              refine And.intro (fun cz35 => ?_) (fun cz35 => ?_)
              · -- 35 taken: ¬ D31r 0 9 = nI 5
                refine And.intro (Wdo_142 hW) (Exists.intro _ (And.intro hq4 ?_))
                refine And.intro (NWo_0 hN) (Exists.intro _ (And.intro (NWr_0_33 hN) ?_))
                refine And.intro ⟨rfl, rfl⟩ ?_
                refine And.intro (NWi_17 hN (vi iv8.1 (by omega))) ?_
                rw [vc iv8.1 (by omega)]
                rw [pp_2 (y := q) (f := 17) (by omega) (by decide)]
                refine And.intro (NWi_17 hN (vi iv8.1 (by omega))) ?_
                rw [vc iv8.1 (by omega)]
                rw [pp_u2 (y := q) (f := 17) (by omega) (by decide)]
                refine And.intro (Wdo_142 hW) (Exists.intro _ (And.intro hq4 ?_))
                refine And.intro (NWo_0 hN) (Exists.intro _ (And.intro (NWr_0_33 hN) ?_))
                refine And.intro ⟨rfl, rfl⟩ ?_
                refine And.intro (NWi_17 hN (vi iv13.1 (by omega))) ?_
                rw [vc iv13.1 (by omega)]
                rw [pp_2 (y := q) (f := 17) (by omega) (by decide)]
                refine And.intro (NWi_17 hN (vi iv13.1 (by omega))) ?_
                rw [vc iv13.1 (by omega)]
                rw [pp_u2 (y := q) (f := 17) (by omega) (by decide)]
                refine And.intro (Wdo_142 hW) (Exists.intro _ (And.intro hq4 ?_))
                refine And.intro rfl ?_
                refine And.intro (NWo_0 hN) ?_
                rw [pp_20 (y := q) (by omega) (by decide)]
                rw [ud_ne (D := (ud E 17 ((nv v8r)) ((E 17 ((nv v8r))) ||| (nI 1 <<< (v13r &&& 31))))) (f := 17) (g := 0) (by decide)]
                rw [ud_ne (D := E) (f := 17) (g := 0) (by decide)]
                rw [(show E 0 11 = nI (nv (Λ 1 9)) from hL0.2.2.2.2.2.2.2.2.2.2.2.1.trans hc9q.1)]
                refine And.intro (NWo_0 hN) ?_
                rw [pp_u20 (y := q) (by omega) (by decide)]
                refine And.intro ⟨rfl, rfl, Nat.le_refl _, Nat.le_refl _⟩ ?_
                have hbq := bi_eq0.mp cz26
                rw [h9x] at hbq
                have hS : rb (bgF (nI (nv (Λ 1 9))) (nI 8) (E 0 0) B n i) (fun i => clashL T Λ B n i) = .inr (T, ud (ud Λ 10 (nv v8r) (Λ 10 (nv v8r) ||| nI 1 <<< (v13r &&& 31))) 10 (nv v13r) ((ud Λ 10 (nv v8r) (Λ 10 (nv v8r) ||| nI 1 <<< (v13r &&& 31))) 10 (nv v13r) ||| nI 1 <<< (v8r &&& 31)), q13r) := by
                  simp only [clashL, eb, pf8, pg8x, pf13, rb_i, if_neg hne, if_neg hbq]
                rw [← hq13] at hX31
                refine hQ _ _ _ _ (FY_t (FY_t (FY_t hy5 hy8) hy13) hy31) ?_
                rw [hS]
                have hco := hL0.2.2.2.2.2.2.2.2.2.2.2.1
                refine ⟨hX31, hNR, ⟨⟨hL0.1, hL0.2.1, hL0.2.2.1, hL0.2.2.2.1, hL0.2.2.2.2.1, hL0.2.2.2.2.2.1, hL0.2.2.2.2.2.2.1, hL0.2.2.2.2.2.2.2.1, hL0.2.2.2.2.2.2.2.2.1, hL0.2.2.2.2.2.2.2.2.2.1, hL0.2.2.2.2.2.2.2.2.2.2.1, ?_, hL0.2.2.2.2.2.2.2.2.2.2.2.2.1, hL0.2.2.2.2.2.2.2.2.2.2.2.2.2.1, hL0.2.2.2.2.2.2.2.2.2.2.2.2.2.2⟩, hL1, hL2, hL3, hL4, hL5, hL6, hL7, hL8, fun g hg => ?_, hL10, hL11, hL12⟩⟩
                · show _ + nI 1 = Λ 1 9 + nI 1
                  first | rfl | exact congrArg (fun z => z + nI 1) hco | (rw [← hc9q.1])
                · show upd (upd (E 17) (nv v8r) (E 17 (nv v8r) ||| nI 1 <<< (v13r &&& 31))) (nv v13r) (upd (E 17) (nv v8r) (E 17 (nv v8r) ||| nI 1 <<< (v13r &&& 31)) (nv v13r) ||| nI 1 <<< (v8r &&& 31)) g = upd (upd (Λ 10) (nv v8r) (Λ 10 (nv v8r) ||| nI 1 <<< (v13r &&& 31))) (nv v13r) (upd (Λ 10) (nv v8r) (Λ 10 (nv v8r) ||| nI 1 <<< (v13r &&& 31)) (nv v13r) ||| nI 1 <<< (v8r &&& 31)) g
                  rw [h9x, show upd (E 17) (nv v8r) (Λ 10 (nv v8r) ||| nI 1 <<< (v13r &&& 31)) (nv v13r) = upd (Λ 10) (nv v8r) (Λ 10 (nv v8r) ||| nI 1 <<< (v13r &&& 31)) (nv v13r) from upd_q (fun _ => hL9 _ (by omega))]
                  exact upd_q (fun _ => upd_q (fun _ => hL9 g hg))
              · -- 35 not: D31r 0 9 = nI 5
                exact absurd cz35 (sq_5 hX31.2.1.2.1)
          · -- 26 not: ¬ bi (bq (E 17 ((nv v8r))) v13r) = 0
            refine And.intro ⟨by omega, Nat.le_of_ble_eq_true rfl, Nat.le_refl _, Nat.le_refl _⟩ (And.intro (Wdo_142 hW) ?_)
            refine X212 (f := 3) hW hN hdq hX13 (fun D29r hX29 hy29 => ?_)
            · -- a way behind the call
              refine And.intro ⟨by omega, Nat.le_of_ble_eq_true rfl, Nat.le_refl _, Nat.le_refl _⟩ (And.intro (Wdo_142 hW) ?_)
              refine X211 hW hN hdq hX29 (fun i e => by change (Sum.inl _ : Rs Nat) = _ at e; cases e) (by omega) (fun D31r K31r hX31 hy31 => ?_)
              · -- a way behind the call
                change RX B n (.inl (3, plF B n i1r)) _ _ at hX31
                refine And.intro (Wdo_142 hW) ?_
                rw [pp_10 (x := 142) (by decide)]
                refine And.intro (fun cz35 => ?_) (fun cz35 => ?_)
                · -- 35 taken: ¬ D31r 0 9 = nI 5
                  exact absurd hX31.2.1 cz35
                · -- 35 not: D31r 0 9 = nI 5
                  refine And.intro ⟨rfl, rfl, Nat.le_refl _, Nat.le_refl _⟩ ?_
                  have hbq := bi_ne0.mp cz26
                  rw [h9x] at hbq
                  have hS : rb (bgF (nI (nv (Λ 1 9))) (nI 8) (E 0 0) B n i) (fun i => clashL T Λ B n i) = .inl (3, plF B n p13r) := by
                    simp only [clashL, eb, pf8, pg8x, pf13, rb_i, if_neg hne, if_pos hbq]
                  rw [pg13x] at hS
                  refine hQ _ _ _ _ (FY_t (FY_t (FY_t (FY_t hy5 hy8) hy13) hy29) hy31) ?_
                  rw [hS]
                  exact hX31
