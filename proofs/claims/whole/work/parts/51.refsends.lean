theorem sends_o {X : Rs Nat} {g h : Nat → Rs (Int32 × Nat)} {e : Nat × Nat} {α : Type} {F : (Int32 × Nat) → (Int32 × Nat) → Rs α} (hE : rb X (fun i => rb (g i) fun a => rb (h a.2) fun _ => (.inr a.2 : Rs Nat)) = .inl e) : rb X (fun i => rb (g i) fun a => rb (h a.2) fun b => F a b) = .inl e := by
  cases X with
  | inl f => exact congrArg Sum.inl (Sum.inl.inj hE)
  | inr i =>
    change rb (g i) _ = _ at hE
    show rb (g i) _ = _
    cases hg : g i with
    | inl f => rw [hg] at hE; exact congrArg Sum.inl (Sum.inl.inj hE)
    | inr a =>
      rw [hg] at hE
      change rb (h a.2) _ = _ at hE
      show rb (h a.2) _ = _
      cases hh : h a.2 with
      | inl f => rw [hh] at hE; exact congrArg Sum.inl (Sum.inl.inj hE)
      | inr b => rw [hh] at hE; cases hE
theorem unl_2 {T : NT} {so n i : Nat} {B : Nat → Int32} {X : Rs Nat} {v : Int32} (h : rb X (fun i => rb (tUse T so B n i) fun a => if a.1 = v then (.inl (3, plF B n i) : Rs Nat) else .inr i) = .inr i) : kiF B n i = 2 := by
  obtain ⟨p, -, h1⟩ := rb_r h
  obtain ⟨⟨a, j⟩, h2, h3⟩ := rb_r h1
  by_cases z : a = v
  · have w9 : (.inl (3, plF B n p) : Rs Nat) = .inr i := (if_pos (c := a = v) z).symm.trans h3
    cases w9
  · have w9 : p = i := Sum.inr.inj ((if_neg (c := a = v) z).symm.trans h3)
    rw [← w9]
    exact (tUse_2 h2).1
theorem L236 {d : Nat} {m : Mm} {Q : Option Value → Mm → Prop} {q : Nat} {E : Nat → Nat → Int32} {L : Nat → Nat → Int64} (hW : Wd m.2.2) (hN : NW m.2.2 q) (hdq : q + 29 ≤ 142 ∨ 142 + 3 ≤ q) {D : Nat → Nat → Int32} {K : Nat → Nat → Int64} {Λ : Nat → Nat → Int32} {T : NT} (hq4 : va_rf (mR m 142 4) = .ref q) (hLQ : LQ Λ E) (hNR : NR T E L) (hI : LRI T Λ) {B : Nat → Int32} {n i : Nat} (hR : RBy B n D) (hT : TR B n i D K) (hi : i ≤ n) (h14 : D 0 14 = nI 0) (kk2 : kiF B n i = 2) (hd : 13 ≤ d) (hQ : ∀ D1 K1 E1 L1, FY D D1 → lnPt B n 6 (rb (bgF (nI (nv (Λ 1 6))) (nI 12) (E 0 0) B n i) (fun i => sendsL T Λ B n i)) D1 K1 E1 L1 → Q none (pp m 142 3 D1 K1 q 29 E1 L1)) : Cc d 0 0 236 [.ref 142] (pp m 142 3 D K q 29 E L) Q := by
  obtain ⟨hL0, hL1, hL2, hL3, hL4, hL5, hL6, hL7, hL8, hL9, hL10, hL11, hL12⟩ := hLQ
  obtain ⟨hC, hWI, hNN, hVI⟩ := hI
  obtain ⟨hn0, hTS2, hTS4, hTS8⟩ := hNN
  have hc2q := hC 2 (by decide)
  have hc4q := hC 4 (by decide)
  have hc8q := hC 8 (by decide)
  have hc10q := hC 10 (by decide)
  have hc6q := hC 6 (by decide)
  refine ent (n := 148) z236 (by decide) rfl (by decide) (Nat.le_of_ble_eq_true rfl) (fun sc => ?_)
  refine And.intro (Wdo_142 hW) (Exists.intro _ (And.intro hq4 ?_))
  refine And.intro (NWo_0 hN) ?_
  rw [pp_20 (y := q) (by omega) (by decide)]
  rw [(show E 0 8 = nI (nv (Λ 1 6)) from hL0.2.2.2.2.2.2.2.2.1.trans hc6q.1)]
  refine And.intro ⟨by omega, Nat.le_of_ble_eq_true rfl, Nat.le_refl _, Nat.le_refl _⟩ (And.intro (Wdo_142 hW) ?_)
  refine L220 hW hN hdq hq4 hR hT hi h14 kk2 (by omega) (fun D5r K5r hX5 hy5 => ?_)
  generalize eX5 : bgF (nI ((nv (Λ 1 6)))) (nI 12) (E 0 0) B n i = X5r at hX5
  · -- a way behind the call
    refine And.intro ⟨by omega, Nat.le_of_ble_eq_true rfl, Nat.le_refl _, Nat.le_refl _⟩ (And.intro (Wdo_142 hW) ?_)
    refine X224 (so := 4) hW hN hdq (by decide) hq4 hNR hX5 (by omega) (fun D8r K8r v8r hX8 hy8 hv8 => ?_)
    generalize eX8 : rb X5r (fun i => rb (tUse T 4 B n i) fun a => .inr a.2) = X8r at hX8
    · -- a way behind the call
      refine And.intro ⟨by omega, Nat.le_of_ble_eq_true rfl, Nat.le_refl _, Nat.le_refl _⟩ (And.intro (Wdo_142 hW) ?_)
      refine X223 (so := 2) hW hN hdq (by decide) hq4 hNR hX8 (by omega) (fun D12r K12r v12r hX12 hy12 hv12 => ?_)
      generalize eX12 : rb X8r (fun i => rb (tUse T 2 B n i) fun _ => .inr i) = X12r at hX12
      · -- a way behind the call
        refine And.intro (Wdo_142 hW) ?_
        rw [pp_10 (x := 142) (by decide)]
        refine And.intro (fun cz17 => ?_) (fun cz17 => ?_)
        · -- 17 taken: D12r 0 9 = nI 5
          obtain ⟨er, ee⟩ := RX_5 hX12 cz17
          rw [ee] at hX12
          refine And.intro ⟨by omega, Nat.le_of_ble_eq_true rfl, Nat.le_refl _, Nat.le_refl _⟩ (And.intro (Wdo_142 hW) ?_)
          refine X211 hW hN hdq hX12 (fun i e => by cases e) (by omega) (fun D33r K33r hX33 hy33 => ?_)
          · -- a way behind the call
            change RX B n (.inl er) _ _ at hX33
            generalize eX33 : (.inl er : Rs Nat) = X33r at hX33
            refine And.intro ⟨by omega, Nat.le_of_ble_eq_true rfl, Nat.le_refl _, Nat.le_refl _⟩ (And.intro (Wdo_142 hW) ?_)
            refine X225 (so := 4) hW hN hdq (by decide) hq4 hNR hX33 (by omega) (fun D37r K37r v37r hX37 hy37 hv37 => ?_)
            generalize eX37 : rb X33r (fun i => rb (tUse T 4 B n i) fun a => if a.1 = v8r then .inl (3, plF B n i) else .inr i) = X37r at hX37
            · -- a way behind the call
              refine And.intro ⟨by omega, Nat.le_of_ble_eq_true rfl, Nat.le_refl _, Nat.le_refl _⟩ (And.intro (Wdo_142 hW) ?_)
              refine X211 hW hN hdq hX37 (fun i e => by rw [unl_2 (eX37.trans e)]; decide) (by omega) (fun D40r K40r hX40 hy40 => ?_)
              · -- a way behind the call
                generalize eX40 : rb X37r (fun i => .inr (nxF B n i)) = X40r at hX40
                refine And.intro (Wdo_142 hW) ?_
                rw [pp_10 (x := 142) (by decide)]
                refine And.intro (fun cz44 => ?_) (fun cz44 => ?_)
                · -- 44 taken: ¬ D40r 0 9 = nI 5
                  skip
                  skip
                  skip
                  skip
                  skip
                  skip
                  skip
                  skip
                  skip
                  skip
                  skip
                  subst eX40
                  subst eX37
                  subst eX33
                  exact absurd hX40.2.1 cz44
                · -- 44 not: D40r 0 9 = nI 5
                  refine And.intro ⟨rfl, rfl, Nat.le_refl _, Nat.le_refl _⟩ ?_
                  obtain ⟨er2, ee2⟩ := RX_5 hX40 cz44
                  rw [ee2] at hX40
                  subst eX40
                  subst eX37
                  subst eX33
                  have w9 : er = er2 := Sum.inl.inj ee2
                  rw [← w9] at hX40
                  rw [← eX8, rb_a, ← eX5] at eX12
                  have hB : rb (bgF (nI (nv (Λ 1 6))) (nI 12) (E 0 0) B n i) (fun i => rb (tUse T 4 B n i) fun a => rb (tUse T 2 B n a.2) fun _ => (.inr a.2 : Rs Nat)) = .inl er := by
                    refine Eq.trans ?_ (eX12.trans ee)
                    congr 1
                    funext i
                    rw [rb_a]
                    rfl
                  have hS : rb (bgF (nI (nv (Λ 1 6))) (nI 12) (E 0 0) B n i) (fun i => sendsL T Λ B n i) = .inl er := sends_o hB
                  refine hQ _ _ _ _ (FY_t (FY_t (FY_t (FY_t (FY_t hy5 hy8) hy12) hy33) hy37) hy40) ?_
                  rw [hS]
                  exact hX40
        · -- 17 not: ¬ D12r 0 9 = nI 5
          obtain ⟨i1r, ei1⟩ := RX_n hX12 cz17
          obtain ⟨p12r, pe12, ph12⟩ := rb_r (eX12.trans ei1)
          obtain ⟨⟨a12r, q12r⟩, pf12, pg12⟩ := rb_r ph12
          have vv12 := hv12 _ _ _ pe12 pf12
          have pg12x : p12r = i1r := Sum.inr.inj pg12
          obtain ⟨p8r, pe8, ph8⟩ := rb_r (eX8.trans pe12)
          obtain ⟨⟨a8r, q8r⟩, pf8, pg8⟩ := rb_r ph8
          have vv8 := hv8 _ _ _ pe8 pf8
          have pg8x : q8r = p12r := Sum.inr.inj pg8
          have eb := eX5.trans pe8
          subst vv8
          subst vv12
          have hcn : nv (Λ 1 4) ≤ 6 := hc4q.2
          have hcm : nv (Λ 1 2) ≤ 6 := hc2q.2
          have iv8 := TS_u hTS4 (by omega) pf8
          have iv12 := TS_u hTS2 (by omega) pf12
          rw [ei1] at hX12
          have hix : ∀ a b : Nat, v8r = nI a → v12r = nI b → nI 6 * v8r + v12r = nI (a * 6 + b) := fun a b h1 h2 => by rw [h1, h2, pk_mul, nI_add, Nat.mul_comm 6 a]
          have h9x : E 8 (nv v8r * 6 + nv v12r) = Λ 17 (nv v8r * 6 + nv v12r) := hL6 _ (by omega)
          have hq12 : q12r = nxF B n i1r := by rw [← pg12x]; exact (tUse_2 pf12).2
          refine And.intro (Wdo_142 hW) (Exists.intro _ (And.intro hq4 ?_))
          refine And.intro (NWo_0 hN) (Exists.intro _ (And.intro (NWr_0_24 hN) ?_))
          refine And.intro (NWi_8 hN (vi (hix _ _ iv8.1 iv12.1) (by omega))) ?_
          rw [vc (hix _ _ iv8.1 iv12.1) (by omega)]
          rw [pp_2 (y := q) (f := 8) (by omega) (by decide)]
          refine And.intro (fun cz28 => ?_) (fun cz28 => ?_)
          · -- 28 taken: E 8 ((nv v8r * 6 + nv v12r)) = -nI 2
            refine And.intro ⟨by omega, Nat.le_of_ble_eq_true rfl, Nat.le_refl _, Nat.le_refl _⟩ (And.intro (Wdo_142 hW) ?_)
            refine X211 hW hN hdq hX12 (fun i e => by rw [← Sum.inr.inj e, ← pg12x, (tUse_2 pf12).1]; decide) (by omega) (fun D33r K33r hX33 hy33 => ?_)
            · -- a way behind the call
              change RX B n (.inr (nxF B n i1r)) _ _ at hX33
              rw [← hq12] at hX33
              generalize eX33 : (.inr q12r : Rs Nat) = X33r at hX33
              refine And.intro ⟨by omega, Nat.le_of_ble_eq_true rfl, Nat.le_refl _, Nat.le_refl _⟩ (And.intro (Wdo_142 hW) ?_)
              refine X225 (so := 4) hW hN hdq (by decide) hq4 hNR hX33 (by omega) (fun D37r K37r v37r hX37 hy37 hv37 => ?_)
              generalize eX37 : rb X33r (fun i => rb (tUse T 4 B n i) fun a => if a.1 = v8r then .inl (3, plF B n i) else .inr i) = X37r at hX37
              · -- a way behind the call
                refine And.intro ⟨by omega, Nat.le_of_ble_eq_true rfl, Nat.le_refl _, Nat.le_refl _⟩ (And.intro (Wdo_142 hW) ?_)
                refine X211 hW hN hdq hX37 (fun i e => by rw [unl_2 (eX37.trans e)]; decide) (by omega) (fun D40r K40r hX40 hy40 => ?_)
                · -- a way behind the call
                  generalize eX40 : rb X37r (fun i => .inr (nxF B n i)) = X40r at hX40
                  refine And.intro (Wdo_142 hW) ?_
                  rw [pp_10 (x := 142) (by decide)]
                  refine And.intro (fun cz44 => ?_) (fun cz44 => ?_)
                  · -- 44 taken: ¬ D40r 0 9 = nI 5
                    obtain ⟨jr, ej⟩ := RX_n hX40 cz44
                    obtain ⟨p40r, pe40, ph40⟩ := rb_r (eX40.trans ej)
                    obtain ⟨p37r, pe37, ph37⟩ := rb_r (eX37.trans pe40)
                    obtain ⟨⟨a37r, q37r⟩, pf37, pg37⟩ := rb_r ph37
                    have vv37 := hv37 _ _ _ pe37 pf37
                    have hne : ¬ a37r = v8r := fun z => by have w9 : (.inl (3, plF B n p37r) : Rs Nat) = .inr p40r := (if_pos (c := a37r = v8r) z).symm.trans pg37; cases w9
                    have pg37x : p37r = p40r := Sum.inr.inj ((if_neg (c := a37r = v8r) hne).symm.trans pg37)
                    have hjq : q37r = jr := by have w9 : nxF B n p40r = jr := Sum.inr.inj ph40; rw [← w9, ← pg37x]; exact (tUse_2 pf37).2
                    have hp37 : q12r = p37r := Sum.inr.inj (eX33.trans pe37)
                    subst vv37
                    rw [← hp37] at pf37
                    refine And.intro (Wdo_142 hW) (Exists.intro _ (And.intro hq4 ?_))
                    refine And.intro (NWo_0 hN) (Exists.intro _ (And.intro (NWr_0_24 hN) ?_))
                    refine And.intro (NWi_8 hN (vi (hix _ _ iv8.1 iv12.1) (by omega))) ?_
                    rw [vc (hix _ _ iv8.1 iv12.1) (by omega)]
                    rw [pp_u2 (y := q) (f := 8) (by omega) (by decide)]
                    refine And.intro (Wdo_142 hW) (Exists.intro _ (And.intro hq4 ?_))
                    refine And.intro rfl ?_
                    refine And.intro (NWo_0 hN) ?_
                    rw [pp_20 (y := q) (by omega) (by decide)]
                    rw [ud_ne (D := E) (f := 8) (g := 0) (by decide)]
                    rw [(show E 0 8 = nI (nv (Λ 1 6)) from hL0.2.2.2.2.2.2.2.2.1.trans hc6q.1)]
                    refine And.intro (NWo_0 hN) ?_
                    rw [pp_u20 (y := q) (by omega) (by decide)]
                    refine And.intro ⟨rfl, rfl, Nat.le_refl _, Nat.le_refl _⟩ ?_
                    rw [h9x] at cz28
                    have hS : rb (bgF (nI (nv (Λ 1 6))) (nI 12) (E 0 0) B n i) (fun i => sendsL T Λ B n i) = .inr (T, ud Λ 17 (nv v8r * 6 + nv v12r) v37r, q37r) := by
                      simp only [sendsL, eb, pf8, pg8x, pf12, rb_i, if_pos cz28, pf37, if_neg hne]
                    rw [ej, ← hjq] at hX40
                    refine hQ _ _ _ _ (FY_t (FY_t (FY_t (FY_t (FY_t hy5 hy8) hy12) hy33) hy37) hy40) ?_
                    rw [hS]
                    have hco := hL0.2.2.2.2.2.2.2.2.1
                    refine ⟨hX40, hNR, ⟨⟨hL0.1, hL0.2.1, hL0.2.2.1, hL0.2.2.2.1, hL0.2.2.2.2.1, hL0.2.2.2.2.2.1, hL0.2.2.2.2.2.2.1, hL0.2.2.2.2.2.2.2.1, ?_, hL0.2.2.2.2.2.2.2.2.2.1, hL0.2.2.2.2.2.2.2.2.2.2.1, hL0.2.2.2.2.2.2.2.2.2.2.2.1, hL0.2.2.2.2.2.2.2.2.2.2.2.2.1, hL0.2.2.2.2.2.2.2.2.2.2.2.2.2.1, hL0.2.2.2.2.2.2.2.2.2.2.2.2.2.2⟩, hL1, hL2, hL3, hL4, hL5, fun g hg => upd_q (fun _ => hL6 g hg), hL7, hL8, hL9, hL10, hL11, hL12⟩⟩
                    show _ + nI 1 = Λ 1 6 + nI 1
                    first | rfl | exact congrArg (fun z => z + nI 1) hco | (rw [← hc6q.1])
                  · -- 44 not: D40r 0 9 = nI 5
                    refine And.intro ⟨rfl, rfl, Nat.le_refl _, Nat.le_refl _⟩ ?_
                    obtain ⟨er2, ee2⟩ := RX_5 hX40 cz44
                    rw [ee2] at hX40
                    subst eX40
                    subst eX37
                    subst eX33
                    rw [h9x] at cz28
                    change rb (rb (tUse T 4 B n q12r) fun a => if a.1 = v8r then (.inl (3, plF B n q12r) : Rs Nat) else .inr q12r) (fun i => .inr (nxF B n i)) = .inl er2 at ee2
                    have hS : rb (bgF (nI (nv (Λ 1 6))) (nI 12) (E 0 0) B n i) (fun i => sendsL T Λ B n i) = .inl er2 := by
                      simp only [sendsL, eb, pf8, pg8x, pf12, rb_i, if_pos cz28]
                      rcases h4 : tUse T 4 B n q12r with w8 | ⟨a, j⟩
                      · rw [h4] at ee2; exact congrArg Sum.inl (Sum.inl.inj ee2)
                      · rw [h4] at ee2
                        by_cases z : a = v8r
                        · change rb (if a = v8r then (.inl (3, plF B n q12r) : Rs Nat) else .inr q12r) _ = _ at ee2
                          rw [if_pos z] at ee2
                          show (if a = v8r then _ else _) = _
                          rw [if_pos z]
                          exact congrArg Sum.inl (Sum.inl.inj ee2)
                        · change rb (if a = v8r then (.inl (3, plF B n q12r) : Rs Nat) else .inr q12r) _ = _ at ee2
                          rw [if_neg z] at ee2
                          cases ee2
                    refine hQ _ _ _ _ (FY_t (FY_t (FY_t (FY_t (FY_t hy5 hy8) hy12) hy33) hy37) hy40) ?_
                    rw [hS]
                    exact hX40
          · -- 28 not: ¬ E 8 ((nv v8r * 6 + nv v12r)) = -nI 2
            refine And.intro ⟨by omega, Nat.le_of_ble_eq_true rfl, Nat.le_refl _, Nat.le_refl _⟩ (And.intro (Wdo_142 hW) ?_)
            refine X212 (f := 3) hW hN hdq hX12 (fun D31r hX31 hy31 => ?_)
            · -- a way behind the call
              refine And.intro ⟨by omega, Nat.le_of_ble_eq_true rfl, Nat.le_refl _, Nat.le_refl _⟩ (And.intro (Wdo_142 hW) ?_)
              refine X211 hW hN hdq hX31 (fun i e => by change (Sum.inl _ : Rs Nat) = _ at e; cases e) (by omega) (fun D33r K33r hX33 hy33 => ?_)
              · -- a way behind the call
                change RX B n (.inl (3, plF B n i1r)) _ _ at hX33
                generalize eX33 : (.inl (3, plF B n i1r) : Rs Nat) = X33r at hX33
                refine And.intro ⟨by omega, Nat.le_of_ble_eq_true rfl, Nat.le_refl _, Nat.le_refl _⟩ (And.intro (Wdo_142 hW) ?_)
                refine X225 (so := 4) hW hN hdq (by decide) hq4 hNR hX33 (by omega) (fun D37r K37r v37r hX37 hy37 hv37 => ?_)
                generalize eX37 : rb X33r (fun i => rb (tUse T 4 B n i) fun a => if a.1 = v8r then .inl (3, plF B n i) else .inr i) = X37r at hX37
                · -- a way behind the call
                  refine And.intro ⟨by omega, Nat.le_of_ble_eq_true rfl, Nat.le_refl _, Nat.le_refl _⟩ (And.intro (Wdo_142 hW) ?_)
                  refine X211 hW hN hdq hX37 (fun i e => by rw [unl_2 (eX37.trans e)]; decide) (by omega) (fun D40r K40r hX40 hy40 => ?_)
                  · -- a way behind the call
                    generalize eX40 : rb X37r (fun i => .inr (nxF B n i)) = X40r at hX40
                    refine And.intro (Wdo_142 hW) ?_
                    rw [pp_10 (x := 142) (by decide)]
                    refine And.intro (fun cz44 => ?_) (fun cz44 => ?_)
                    · -- 44 taken: ¬ D40r 0 9 = nI 5
                      skip
                      skip
                      skip
                      skip
                      skip
                      skip
                      skip
                      skip
                      skip
                      skip
                      skip
                      subst eX40
                      subst eX37
                      subst eX33
                      exact absurd hX40.2.1 cz44
                    · -- 44 not: D40r 0 9 = nI 5
                      refine And.intro ⟨rfl, rfl, Nat.le_refl _, Nat.le_refl _⟩ ?_
                      obtain ⟨er2, ee2⟩ := RX_5 hX40 cz44
                      rw [ee2] at hX40
                      subst eX40
                      subst eX37
                      subst eX33
                      have w9 : (3, plF B n i1r) = er2 := Sum.inl.inj ee2
                      rw [← w9] at hX40
                      rw [h9x] at cz28
                      have hS : rb (bgF (nI (nv (Λ 1 6))) (nI 12) (E 0 0) B n i) (fun i => sendsL T Λ B n i) = .inl (3, plF B n p12r) := by
                        simp only [sendsL, eb, pf8, pg8x, pf12, rb_i, if_neg cz28]
                      rw [pg12x] at hS
                      refine hQ _ _ _ _ (FY_t (FY_t (FY_t (FY_t (FY_t (FY_t hy5 hy8) hy12) hy31) hy33) hy37) hy40) ?_
                      rw [hS]
                      exact hX40
