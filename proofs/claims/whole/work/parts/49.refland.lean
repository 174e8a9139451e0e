theorem L233 {d : Nat} {m : Mm} {Q : Option Value → Mm → Prop} {q : Nat} {E : Nat → Nat → Int32} {L : Nat → Nat → Int64} (hW : Wd m.2.2) (hN : NW m.2.2 q) (hdq : q + 29 ≤ 142 ∨ 142 + 3 ≤ q) {D : Nat → Nat → Int32} {K : Nat → Nat → Int64} {Λ : Nat → Nat → Int32} {T : NT} (hq4 : va_rf (mR m 142 4) = .ref q) (hLQ : LQ Λ E) (hNR : NR T E L) (hI : LRI T Λ) {B : Nat → Int32} {n i : Nat} (hR : RBy B n D) (hT : TR B n i D K) (hi : i ≤ n) (h14 : D 0 14 = nI 0) (kk2 : kiF B n i = 2) (hd : 13 ≤ d) (hQ : ∀ D1 K1 E1 L1, FY D D1 → lnPt B n 3 (rb (if E 0 16 = -nI 1 then bgF (nI 0) (nI 1) (E 0 0) B n i else (.inl (3, plF B n i) : Rs Nat)) (fun i => luckL T Λ B n i)) D1 K1 E1 L1 → Q none (pp m 142 3 D1 K1 q 29 E1 L1)) : Cc d 0 0 233 [.ref 142] (pp m 142 3 D K q 29 E L) Q := by
  obtain ⟨hL0, hL1, hL2, hL3, hL4, hL5, hL6, hL7, hL8, hL9, hL10, hL11, hL12⟩ := hLQ
  obtain ⟨hC, hWI, hNN, hVI⟩ := hI
  obtain ⟨hn0, hTS2, hTS4, hTS8⟩ := hNN
  have hc2q := hC 2 (by decide)
  have hc4q := hC 4 (by decide)
  have hc8q := hC 8 (by decide)
  have hc10q := hC 10 (by decide)
  have hc3q := hC 3 (by decide)
  have hX0 : RX B n (.inr i) D K := ⟨hR, hT, hi, h14⟩
  refine ent (n := 72) z233 (by decide) rfl (by decide) (Nat.le_of_ble_eq_true rfl) (fun sc => ?_)
  refine And.intro (Wdo_142 hW) (Exists.intro _ (And.intro hq4 ?_))
  refine And.intro (NWo_0 hN) ?_
  rw [pp_20 (y := q) (by omega) (by decide)]
  refine And.intro (fun cz4 => ?_) (fun cz4 => ?_)
  · -- 4 taken: E 0 16 = -nI 1
    refine And.intro ⟨by omega, Nat.le_of_ble_eq_true rfl, Nat.le_refl _, Nat.le_refl _⟩ (And.intro (Wdo_142 hW) ?_)
    refine L220 (x := nI 0) (y := nI 1) hW hN hdq hq4 hR hT hi h14 kk2 (by omega) (fun D11r K11r hX11 hy11 => ?_)
    rw [show bgF (nI 0) (nI 1) (E 0 0) B n i = (if E 0 16 = -nI 1 then bgF (nI 0) (nI 1) (E 0 0) B n i else (.inl (3, plF B n i) : Rs Nat)) from (if_pos cz4).symm] at hX11
    generalize eX11 : (if E 0 16 = -nI 1 then bgF (nI 0) (nI 1) (E 0 0) B n i else (.inl (3, plF B n i) : Rs Nat)) = X11r at hX11
    · -- a way behind the call
      refine And.intro ⟨by omega, Nat.le_of_ble_eq_true rfl, Nat.le_refl _, Nat.le_refl _⟩ (And.intro (Wdo_142 hW) ?_)
      refine X217 hW hN hdq hX11 (by omega) (fun D15r K15r v15r hX15 hy15 hv15 => ?_)
      generalize eX15 : rb X11r (fun i => rb (pWhole (nI 0) (nI 99) B n i) fun a => .inr a.2) = X15r at hX15
      · -- a way behind the call
        refine And.intro (Wdo_142 hW) ?_
        rw [pp_10 (x := 142) (by decide)]
        refine And.intro (fun cz20 => ?_) (fun cz20 => ?_)
        · -- 20 taken: D15r 0 9 = nI 5
          refine And.intro ⟨rfl, rfl, Nat.le_refl _, Nat.le_refl _⟩ ?_
          obtain ⟨er, ee⟩ := RX_5 hX15 cz20
          rw [ee] at hX15
          subst eX15
          subst eX11
          refine hQ _ _ _ _ (FY_t hy11 hy15) (lnPt_l (Eq.trans ?_ ee) hX15)
          simp only [rb_a, rb_i, rb_d, luckL]
        · -- 20 not: ¬ D15r 0 9 = nI 5
          obtain ⟨jr, ej⟩ := RX_n hX15 cz20; obtain ⟨p15r, pe15, ph15⟩ := rb_r (eX15.trans ej); obtain ⟨⟨a15r, q15r⟩, pf15, pg15⟩ := rb_r ph15; have vv15 := hv15 _ _ _ pe15 pf15; have pg15x : q15r = _ := Sum.inr.inj pg15; have eb := eX11.trans pe15
          refine And.intro (Wdo_142 hW) (Exists.intro _ (And.intro hq4 ?_))
          refine And.intro (NWo_0 hN) ?_
          rw [pp_u20 (y := q) (by omega) (by decide)]
          refine And.intro ⟨rfl, rfl, Nat.le_refl _, Nat.le_refl _⟩ ?_
          have hS : rb (if E 0 16 = -nI 1 then bgF (nI 0) (nI 1) (E 0 0) B n i else (.inl (3, plF B n i) : Rs Nat)) (fun i => luckL T Λ B n i) = .inr (T, ud Λ 0 3 a15r, jr) := by
            simp only [pf15, pg15x, eb, rb_a, rb_i, luckL]
          rw [ej] at hX15
          refine hQ _ _ _ _ (FY_t hy11 hy15) ?_
          rw [hS]
          rw [vv15]
          have hb5 := nv_b1 hc3q.1 (by have := hc3q.2; change _ ≤ 1 at this; omega)
          refine ⟨hX15, hNR, ⟨hL0, ⟨fun z => ?_, fun _ => rfl⟩, hL2, hL3, hL4, hL5, hL6, hL7, hL8, hL9, hL10, hL11, hL12⟩⟩
          change nv (Λ 1 3 + nI 1) = 0 at z
          omega
  · -- 4 not: ¬ E 0 16 = -nI 1
    refine And.intro ⟨by omega, Nat.le_of_ble_eq_true rfl, Nat.le_refl _, Nat.le_refl _⟩ (And.intro (Wdo_142 hW) ?_)
    refine X212 (f := 3) hW hN hdq hX0 (fun D7r hX7 hy7 => ?_)
    · -- a way behind the call
      refine And.intro ⟨by omega, Nat.le_of_ble_eq_true rfl, Nat.le_refl _, Nat.le_refl _⟩ (And.intro (Wdo_142 hW) ?_)
      change RX B n (.inl (3, plF B n i)) D7r K at hX7
      refine O220 hW hN hdq hq4 hX7 (by omega) ?_
      rw [show (.inl (3, plF B n i) : Rs Nat) = (if E 0 16 = -nI 1 then bgF (nI 0) (nI 1) (E 0 0) B n i else (.inl (3, plF B n i) : Rs Nat)) from (if_neg cz4).symm] at hX7
      generalize eX11 : (if E 0 16 = -nI 1 then bgF (nI 0) (nI 1) (E 0 0) B n i else (.inl (3, plF B n i) : Rs Nat)) = X11r at hX7
      · -- a way behind the call
        refine And.intro ⟨by omega, Nat.le_of_ble_eq_true rfl, Nat.le_refl _, Nat.le_refl _⟩ (And.intro (Wdo_142 hW) ?_)
        refine X217 hW hN hdq hX7 (by omega) (fun D15r K15r v15r hX15 hy15 hv15 => ?_)
        generalize eX15 : rb X11r (fun i => rb (pWhole (nI 0) (nI 99) B n i) fun a => .inr a.2) = X15r at hX15
        · -- a way behind the call
          refine And.intro (Wdo_142 hW) ?_
          rw [pp_10 (x := 142) (by decide)]
          refine And.intro (fun cz20 => ?_) (fun cz20 => ?_)
          · -- 20 taken: D15r 0 9 = nI 5
            refine And.intro ⟨rfl, rfl, Nat.le_refl _, Nat.le_refl _⟩ ?_
            obtain ⟨er, ee⟩ := RX_5 hX15 cz20
            rw [ee] at hX15
            subst eX15
            subst eX11
            refine hQ _ _ _ _ (FY_t hy7 hy15) (lnPt_l (Eq.trans ?_ ee) hX15)
            simp only [rb_a, rb_i, rb_d, luckL]
          · -- 20 not: ¬ D15r 0 9 = nI 5
            obtain ⟨jr, ej⟩ := RX_n hX15 cz20; obtain ⟨p15r, pe15, ph15⟩ := rb_r (eX15.trans ej); obtain ⟨⟨a15r, q15r⟩, pf15, pg15⟩ := rb_r ph15; have vv15 := hv15 _ _ _ pe15 pf15; have pg15x : q15r = _ := Sum.inr.inj pg15; have eb := eX11.trans pe15
            refine And.intro (Wdo_142 hW) (Exists.intro _ (And.intro hq4 ?_))
            refine And.intro (NWo_0 hN) ?_
            rw [pp_u20 (y := q) (by omega) (by decide)]
            refine And.intro ⟨rfl, rfl, Nat.le_refl _, Nat.le_refl _⟩ ?_
            have hS : rb (if E 0 16 = -nI 1 then bgF (nI 0) (nI 1) (E 0 0) B n i else (.inl (3, plF B n i) : Rs Nat)) (fun i => luckL T Λ B n i) = .inr (T, ud Λ 0 3 a15r, jr) := by
              simp only [pf15, pg15x, eb, rb_a, rb_i, luckL]
            rw [ej] at hX15
            refine hQ _ _ _ _ (FY_t hy7 hy15) ?_
            rw [hS]
            rw [vv15]
            have hb5 := nv_b1 hc3q.1 (by have := hc3q.2; change _ ≤ 1 at this; omega)
            refine ⟨hX15, hNR, ⟨hL0, ⟨fun z => ?_, fun _ => rfl⟩, hL2, hL3, hL4, hL5, hL6, hL7, hL8, hL9, hL10, hL11, hL12⟩⟩
            change nv (Λ 1 3 + nI 1) = 0 at z
            omega
theorem L230 {d : Nat} {m : Mm} {Q : Option Value → Mm → Prop} {q : Nat} {E : Nat → Nat → Int32} {L : Nat → Nat → Int64} (hW : Wd m.2.2) (hN : NW m.2.2 q) (hdq : q + 29 ≤ 142 ∨ 142 + 3 ≤ q) {D : Nat → Nat → Int32} {K : Nat → Nat → Int64} {Λ : Nat → Nat → Int32} {T : NT} (hq4 : va_rf (mR m 142 4) = .ref q) (hLQ : LQ Λ E) (hNR : NR T E L) (hI : LRI T Λ) {B : Nat → Int32} {n i : Nat} (hR : RBy B n D) (hT : TR B n i D K) (hi : i ≤ n) (h14 : D 0 14 = nI 0) (kk2 : kiF B n i = 2) (hd : 13 ≤ d) (hz1 : ¬ 0 < E 0 0 → nv (Λ 1 1) = 0) (hQ : ∀ D1 K1 E1 L1, FY D D1 → lnPt B n 0 (rb (if 0 < E 0 0 then (.inl (3, plF B n i) : Rs Nat) else .inr (nxF B n i)) (fun i => landL T Λ B n i)) D1 K1 E1 L1 → Q none (pp m 142 3 D1 K1 q 29 E1 L1)) : Cc d 0 0 230 [.ref 142] (pp m 142 3 D K q 29 E L) Q := by
  obtain ⟨hL0, hL1, hL2, hL3, hL4, hL5, hL6, hL7, hL8, hL9, hL10, hL11, hL12⟩ := hLQ
  obtain ⟨hC, hWI, hNN, hVI⟩ := hI
  obtain ⟨hn0, hTS2, hTS4, hTS8⟩ := hNN
  have hc2q := hC 2 (by decide)
  have hc4q := hC 4 (by decide)
  have hc8q := hC 8 (by decide)
  have hc10q := hC 10 (by decide)
  have hc0q := hC 0 (by decide)
  have hX0 : RX B n (.inr i) D K := ⟨hR, hT, hi, h14⟩
  refine ent (n := 160) z230 (by decide) rfl (by decide) (Nat.le_of_ble_eq_true rfl) (fun sc => ?_)
  refine And.intro (Wdo_142 hW) (Exists.intro _ (And.intro hq4 ?_))
  refine And.intro (NWo_0 hN) ?_
  rw [pp_20 (y := q) (by omega) (by decide)]
  refine And.intro (fun cz3 => ?_) (fun cz3 => ?_)
  · -- 3 taken: E 0 0 ≤ 0
    refine And.intro ⟨by omega, Nat.le_of_ble_eq_true rfl, Nat.le_refl _, Nat.le_refl _⟩ (And.intro (Wdo_142 hW) ?_)
    refine X211 hW hN hdq hX0 (fun i9 e => by rw [← Sum.inr.inj e, kk2]; decide) (by omega) (fun D8r K8r hX8 hy8 => ?_)
    · -- a way behind the call
      change RX B n (.inr (nxF B n i)) _ _ at hX8
      rw [show (.inr (nxF B n i) : Rs Nat) = (if 0 < E 0 0 then (.inl (3, plF B n i) : Rs Nat) else .inr (nxF B n i)) from (if_neg (Int32.not_lt.mpr cz3)).symm] at hX8
      generalize eX8 : (if 0 < E 0 0 then (.inl (3, plF B n i) : Rs Nat) else .inr (nxF B n i)) = X8r at hX8
      refine And.intro ⟨by omega, Nat.le_of_ble_eq_true rfl, Nat.le_refl _, Nat.le_refl _⟩ (And.intro (Wdo_142 hW) ?_)
      refine X218 (s0 := 22) (w := lN 763013) hW hN hdq (by decide) (by decide) wo_22 hX8 (by omega) (fun D13r K13r v13r hX13 hy13 hv13 => ?_)
      generalize eX13a : rb X8r (fun i => pWord (lN 763013) B n i) = X13ar at hX13 hv13
      generalize eX13 : rb X13ar (fun i => rb (pWhole (nI 2) (nI 6) B n i) fun a => .inr a.2) = X13r at hX13
      · -- a way behind the call
        refine And.intro ⟨by omega, Nat.le_of_ble_eq_true rfl, Nat.le_refl _, Nat.le_refl _⟩ (And.intro (Wdo_142 hW) ?_)
        refine X218 (s0 := 23) (w := lN 271592) hW hN hdq (by decide) (by decide) wo_23 hX13 (by omega) (fun D19r K19r v19r hX19 hy19 hv19 => ?_)
        generalize eX19a : rb X13r (fun i => pWord (lN 271592) B n i) = X19ar at hX19 hv19
        generalize eX19 : rb X19ar (fun i => rb (pWhole (nI 1) (nI 4) B n i) fun a => .inr a.2) = X19r at hX19
        · -- a way behind the call
          refine And.intro ⟨by omega, Nat.le_of_ble_eq_true rfl, Nat.le_refl _, Nat.le_refl _⟩ (And.intro (Wdo_142 hW) ?_)
          refine X215 (s0 := 24) hW hN hdq (by decide) (by decide) wo_24 hX19 (by omega) (fun D23r K23r hX23 hy23 => ?_)
          generalize eX23 : rb X19r (fun i => pWord (lN 12343) B n i) = X23r at hX23
          · -- a way behind the call
            refine And.intro ⟨by omega, Nat.le_of_ble_eq_true rfl, Nat.le_refl _, Nat.le_refl _⟩ (And.intro (Wdo_142 hW) ?_)
            refine X213 (s0 := 25) hW hN hdq hX23 (by decide) (by decide) wo_25 (by omega) ?_
            refine And.intro (fun cz27 => ?_) (fun cz27 => ?_)
            · -- 27 taken: bi (wqX B n X23r (lN 6605428)) = 0
              refine And.intro ⟨by omega, Nat.le_of_ble_eq_true rfl, Nat.le_refl _, Nat.le_refl _⟩ (And.intro (Wdo_142 hW) ?_)
              refine X213 (s0 := 26) hW hN hdq hX23 (by decide) (by decide) wo_26 (by omega) ?_
              refine And.intro (fun cz33 => ?_) (fun cz33 => ?_)
              · -- 33 taken: bi (wqX B n X23r (lN 238804)) = 0
                refine And.intro ⟨by omega, Nat.le_of_ble_eq_true rfl, Nat.le_refl _, Nat.le_refl _⟩ (And.intro (Wdo_142 hW) ?_)
                refine X213 (s0 := 27) hW hN hdq hX23 (by decide) (by decide) wo_27 (by omega) ?_
                refine And.intro (fun cz39 => ?_) (fun cz39 => ?_)
                · -- 39 taken: bi (wqX B n X23r (lN 464036)) = 0
                  refine And.intro (fun cz46 => False.elim (cz46 rfl)) (fun cz46 => ?_)
                  refine And.intro ⟨by omega, Nat.le_of_ble_eq_true rfl, Nat.le_refl _, Nat.le_refl _⟩ (And.intro (Wdo_142 hW) ?_)
                  refine X212 (f := 1) hW hN hdq hX23 (fun D49r hX49 hy49 => ?_)
                  · -- a way behind the call
                    refine And.intro ⟨by omega, Nat.le_of_ble_eq_true rfl, Nat.le_refl _, Nat.le_refl _⟩ (And.intro (Wdo_142 hW) ?_)
                    refine X211 hW hN hdq hX49 (fun i e => by obtain ⟨_, _, h⟩ := rb_r e; cases h) (by omega) (fun D51r K51r hX51 hy51 => ?_)
                    · -- a way behind the call
                      have hpk51 := pk_n (X := X23r) (cs := [lN 6605428, lN 238804, lN 464036]) (fun i e h2 => by rw [ixF, if_neg (wq_n (bi_eq0.mp cz27) e h2), ixF, if_neg (wq_n (bi_eq0.mp cz33) e h2), ixF, if_neg (wq_n (bi_eq0.mp cz39) e h2), ixF])
                      rw [hpk51.1] at hX51
                      have hv51 : ∀ i9 a j, X23r = .inr i9 → pPick [lN 6605428, lN 238804, lN 464036] B n i9 = .inr (a, j) → -nI 1 = a := fun i9 a j e z => absurd z (hpk51.2 i9 a j e)
                      generalize eX51 : rb X23r (fun i => rb (pPick [lN 6605428, lN 238804, lN 464036] B n i) fun a => .inr a.2) = X51r at hX51
                      refine And.intro (Wdo_142 hW) ?_
                      rw [pp_10 (x := 142) (by decide)]
                      refine And.intro (fun cz55 => ?_) (fun cz55 => ?_)
                      · -- 55 taken: ¬ D51r 0 9 = nI 5
                        obtain ⟨jr, ej⟩ := RX_n hX51 cz55; obtain ⟨p51r, pe51, ph51⟩ := rb_r (eX51.trans ej); obtain ⟨⟨a51r, q51r⟩, pf51, pg51⟩ := rb_r ph51; have vv51 := hv51 _ _ _ pe51 pf51; have pg51x : q51r = _ := Sum.inr.inj pg51; obtain ⟨p23r, pe23, ph23⟩ := rb_r (eX23.trans pe51); obtain ⟨p19r, pe19, ph19⟩ := rb_r (eX19.trans pe23); obtain ⟨⟨a19r, q19r⟩, pf19, pg19⟩ := rb_r ph19; have vv19 := hv19 _ _ _ pe19 pf19; have pg19x : q19r = _ := Sum.inr.inj pg19; obtain ⟨p19ar, pe19a, ph19a⟩ := rb_r (eX19a.trans pe19); obtain ⟨p13r, pe13, ph13⟩ := rb_r (eX13.trans pe19a); obtain ⟨⟨a13r, q13r⟩, pf13, pg13⟩ := rb_r ph13; have vv13 := hv13 _ _ _ pe13 pf13; have pg13x : q13r = _ := Sum.inr.inj pg13; obtain ⟨p13ar, pe13a, ph13a⟩ := rb_r (eX13a.trans pe13); have eb := eX8.trans pe13a
                        refine And.intro (Wdo_142 hW) (Exists.intro _ (And.intro hq4 ?_))
                        refine And.intro (NWo_0 hN) ?_
                        rw [pp_u20 (y := q) (by omega) (by decide)]
                        refine And.intro (Wdo_142 hW) (Exists.intro _ (And.intro hq4 ?_))
                        refine And.intro (NWo_0 hN) ?_
                        rw [pp_u20 (y := q) (by omega) (by decide)]
                        refine And.intro (Wdo_142 hW) (Exists.intro _ (And.intro hq4 ?_))
                        refine And.intro (NWo_0 hN) ?_
                        rw [pp_u20 (y := q) (by omega) (by decide)]
                        refine And.intro ⟨rfl, rfl, Nat.le_refl _, Nat.le_refl _⟩ ?_
                        have hS : rb (if 0 < E 0 0 then (.inl (3, plF B n i) : Rs Nat) else .inr (nxF B n i)) (fun i => landL T Λ B n i) = .inr (T, ud (ud (ud Λ 0 0 a13r) 0 1 a19r) 0 2 a51r, jr) := by
                          simp only [pf51, pg51x, ph23, pf19, pg19x, ph19a, pf13, pg13x, ph13a, eb, rb_a, rb_i, landL]
                        rw [ej] at hX51
                        refine hQ _ _ _ _ (FY_t (FY_t (FY_t (FY_t (FY_t hy8 hy13) hy19) hy23) hy49) hy51) ?_
                        rw [hS]
                        rw [vv13, vv19]
                        subst vv51
                        have h11 : nv (Λ 1 1) = 0 := hz1 (fun z => by rw [if_pos z] at eb; cases eb)
                        refine ⟨hX51, hNR, ⟨⟨rfl, rfl, hL0.2.2.1, rfl, hL0.2.2.2.2.1.trans ?_, hL0.2.2.2.2.2.1, hL0.2.2.2.2.2.2.1, hL0.2.2.2.2.2.2.2.1, hL0.2.2.2.2.2.2.2.2.1, hL0.2.2.2.2.2.2.2.2.2.1, hL0.2.2.2.2.2.2.2.2.2.2.1, hL0.2.2.2.2.2.2.2.2.2.2.2.1, hL0.2.2.2.2.2.2.2.2.2.2.2.2.1, hL0.2.2.2.2.2.2.2.2.2.2.2.2.2.1, hL0.2.2.2.2.2.2.2.2.2.2.2.2.2.2⟩, hL1, hL2, hL3, hL4, hL5, hL6, hL7, hL8, hL9, hL10, hL11, hL12⟩⟩
                        show grF (Λ 2) (nv (Λ 1 1) * nv (Λ 0 0)) = grF (Λ 2) (nv (Λ 1 1) * nv a13r)
                        rw [h11, Nat.zero_mul, Nat.zero_mul]
                      · -- 55 not: D51r 0 9 = nI 5
                        refine And.intro ⟨rfl, rfl, Nat.le_refl _, Nat.le_refl _⟩ ?_
                        obtain ⟨er, ee⟩ := RX_5 hX51 cz55
                        rw [ee] at hX51
                        subst eX51
                        subst eX23
                        subst eX19
                        subst eX19a
                        subst eX13
                        subst eX13a
                        subst eX8
                        refine hQ _ _ _ _ (FY_t (FY_t (FY_t (FY_t (FY_t hy8 hy13) hy19) hy23) hy49) hy51) (lnPt_l (Eq.trans ?_ ee) hX51)
                        simp only [rb_a, rb_i, rb_d, landL]
                · -- 39 not: ¬ bi (wqX B n X23r (lN 464036)) = 0
                  refine And.intro (fun cz46 => ?_) (fun cz46 => False.elim (absurd cz46 (by decide)))
                  refine And.intro ⟨by omega, Nat.le_of_ble_eq_true rfl, Nat.le_refl _, Nat.le_refl _⟩ (And.intro (Wdo_142 hW) ?_)
                  refine X211 hW hN hdq hX23 (fun i e => by rw [wq_2 (bi_ne0.mp cz39) e]; decide) (by omega) (fun D51r K51r hX51 hy51 => ?_)
                  · -- a way behind the call
                    have hpk51 := pk_y (cs := [lN 6605428, lN 238804, lN 464036]) (k := nI 2) (bi_ne0.mp cz39) (by decide) (by decide)
                    rw [hpk51.1] at hX51
                    have hv51 := hpk51.2
                    generalize eX51 : rb X23r (fun i => rb (pPick [lN 6605428, lN 238804, lN 464036] B n i) fun a => .inr a.2) = X51r at hX51
                    refine And.intro (Wdo_142 hW) ?_
                    rw [pp_10 (x := 142) (by decide)]
                    refine And.intro (fun cz55 => ?_) (fun cz55 => ?_)
                    · -- 55 taken: ¬ D51r 0 9 = nI 5
                      obtain ⟨jr, ej⟩ := RX_n hX51 cz55; obtain ⟨p51r, pe51, ph51⟩ := rb_r (eX51.trans ej); obtain ⟨⟨a51r, q51r⟩, pf51, pg51⟩ := rb_r ph51; have vv51 := hv51 _ _ _ pe51 pf51; have pg51x : q51r = _ := Sum.inr.inj pg51; obtain ⟨p23r, pe23, ph23⟩ := rb_r (eX23.trans pe51); obtain ⟨p19r, pe19, ph19⟩ := rb_r (eX19.trans pe23); obtain ⟨⟨a19r, q19r⟩, pf19, pg19⟩ := rb_r ph19; have vv19 := hv19 _ _ _ pe19 pf19; have pg19x : q19r = _ := Sum.inr.inj pg19; obtain ⟨p19ar, pe19a, ph19a⟩ := rb_r (eX19a.trans pe19); obtain ⟨p13r, pe13, ph13⟩ := rb_r (eX13.trans pe19a); obtain ⟨⟨a13r, q13r⟩, pf13, pg13⟩ := rb_r ph13; have vv13 := hv13 _ _ _ pe13 pf13; have pg13x : q13r = _ := Sum.inr.inj pg13; obtain ⟨p13ar, pe13a, ph13a⟩ := rb_r (eX13a.trans pe13); have eb := eX8.trans pe13a
                      refine And.intro (Wdo_142 hW) (Exists.intro _ (And.intro hq4 ?_))
                      refine And.intro (NWo_0 hN) ?_
                      rw [pp_u20 (y := q) (by omega) (by decide)]
                      refine And.intro (Wdo_142 hW) (Exists.intro _ (And.intro hq4 ?_))
                      refine And.intro (NWo_0 hN) ?_
                      rw [pp_u20 (y := q) (by omega) (by decide)]
                      refine And.intro (Wdo_142 hW) (Exists.intro _ (And.intro hq4 ?_))
                      refine And.intro (NWo_0 hN) ?_
                      rw [pp_u20 (y := q) (by omega) (by decide)]
                      refine And.intro ⟨rfl, rfl, Nat.le_refl _, Nat.le_refl _⟩ ?_
                      have hS : rb (if 0 < E 0 0 then (.inl (3, plF B n i) : Rs Nat) else .inr (nxF B n i)) (fun i => landL T Λ B n i) = .inr (T, ud (ud (ud Λ 0 0 a13r) 0 1 a19r) 0 2 a51r, jr) := by
                        simp only [pf51, pg51x, ph23, pf19, pg19x, ph19a, pf13, pg13x, ph13a, eb, rb_a, rb_i, landL]
                      rw [ej] at hX51
                      refine hQ _ _ _ _ (FY_t (FY_t (FY_t (FY_t hy8 hy13) hy19) hy23) hy51) ?_
                      rw [hS]
                      rw [vv13, vv19]
                      subst vv51
                      have h11 : nv (Λ 1 1) = 0 := hz1 (fun z => by rw [if_pos z] at eb; cases eb)
                      refine ⟨hX51, hNR, ⟨⟨rfl, rfl, hL0.2.2.1, rfl, hL0.2.2.2.2.1.trans ?_, hL0.2.2.2.2.2.1, hL0.2.2.2.2.2.2.1, hL0.2.2.2.2.2.2.2.1, hL0.2.2.2.2.2.2.2.2.1, hL0.2.2.2.2.2.2.2.2.2.1, hL0.2.2.2.2.2.2.2.2.2.2.1, hL0.2.2.2.2.2.2.2.2.2.2.2.1, hL0.2.2.2.2.2.2.2.2.2.2.2.2.1, hL0.2.2.2.2.2.2.2.2.2.2.2.2.2.1, hL0.2.2.2.2.2.2.2.2.2.2.2.2.2.2⟩, hL1, hL2, hL3, hL4, hL5, hL6, hL7, hL8, hL9, hL10, hL11, hL12⟩⟩
                      show grF (Λ 2) (nv (Λ 1 1) * nv (Λ 0 0)) = grF (Λ 2) (nv (Λ 1 1) * nv a13r)
                      rw [h11, Nat.zero_mul, Nat.zero_mul]
                    · -- 55 not: D51r 0 9 = nI 5
                      refine And.intro ⟨rfl, rfl, Nat.le_refl _, Nat.le_refl _⟩ ?_
                      obtain ⟨er, ee⟩ := RX_5 hX51 cz55
                      rw [ee] at hX51
                      subst eX51
                      subst eX23
                      subst eX19
                      subst eX19a
                      subst eX13
                      subst eX13a
                      subst eX8
                      refine hQ _ _ _ _ (FY_t (FY_t (FY_t (FY_t hy8 hy13) hy19) hy23) hy51) (lnPt_l (Eq.trans ?_ ee) hX51)
                      simp only [rb_a, rb_i, rb_d, landL]
              · -- 33 not: ¬ bi (wqX B n X23r (lN 238804)) = 0
                refine And.intro (fun cz46 => ?_) (fun cz46 => False.elim (absurd cz46 (by decide)))
                refine And.intro ⟨by omega, Nat.le_of_ble_eq_true rfl, Nat.le_refl _, Nat.le_refl _⟩ (And.intro (Wdo_142 hW) ?_)
                refine X211 hW hN hdq hX23 (fun i e => by rw [wq_2 (bi_ne0.mp cz33) e]; decide) (by omega) (fun D51r K51r hX51 hy51 => ?_)
                · -- a way behind the call
                  have hpk51 := pk_y (cs := [lN 6605428, lN 238804, lN 464036]) (k := nI 1) (bi_ne0.mp cz33) (by decide) (by decide)
                  rw [hpk51.1] at hX51
                  have hv51 := hpk51.2
                  generalize eX51 : rb X23r (fun i => rb (pPick [lN 6605428, lN 238804, lN 464036] B n i) fun a => .inr a.2) = X51r at hX51
                  refine And.intro (Wdo_142 hW) ?_
                  rw [pp_10 (x := 142) (by decide)]
                  refine And.intro (fun cz55 => ?_) (fun cz55 => ?_)
                  · -- 55 taken: ¬ D51r 0 9 = nI 5
                    obtain ⟨jr, ej⟩ := RX_n hX51 cz55; obtain ⟨p51r, pe51, ph51⟩ := rb_r (eX51.trans ej); obtain ⟨⟨a51r, q51r⟩, pf51, pg51⟩ := rb_r ph51; have vv51 := hv51 _ _ _ pe51 pf51; have pg51x : q51r = _ := Sum.inr.inj pg51; obtain ⟨p23r, pe23, ph23⟩ := rb_r (eX23.trans pe51); obtain ⟨p19r, pe19, ph19⟩ := rb_r (eX19.trans pe23); obtain ⟨⟨a19r, q19r⟩, pf19, pg19⟩ := rb_r ph19; have vv19 := hv19 _ _ _ pe19 pf19; have pg19x : q19r = _ := Sum.inr.inj pg19; obtain ⟨p19ar, pe19a, ph19a⟩ := rb_r (eX19a.trans pe19); obtain ⟨p13r, pe13, ph13⟩ := rb_r (eX13.trans pe19a); obtain ⟨⟨a13r, q13r⟩, pf13, pg13⟩ := rb_r ph13; have vv13 := hv13 _ _ _ pe13 pf13; have pg13x : q13r = _ := Sum.inr.inj pg13; obtain ⟨p13ar, pe13a, ph13a⟩ := rb_r (eX13a.trans pe13); have eb := eX8.trans pe13a
                    refine And.intro (Wdo_142 hW) (Exists.intro _ (And.intro hq4 ?_))
                    refine And.intro (NWo_0 hN) ?_
                    rw [pp_u20 (y := q) (by omega) (by decide)]
                    refine And.intro (Wdo_142 hW) (Exists.intro _ (And.intro hq4 ?_))
                    refine And.intro (NWo_0 hN) ?_
                    rw [pp_u20 (y := q) (by omega) (by decide)]
                    refine And.intro (Wdo_142 hW) (Exists.intro _ (And.intro hq4 ?_))
                    refine And.intro (NWo_0 hN) ?_
                    rw [pp_u20 (y := q) (by omega) (by decide)]
                    refine And.intro ⟨rfl, rfl, Nat.le_refl _, Nat.le_refl _⟩ ?_
                    have hS : rb (if 0 < E 0 0 then (.inl (3, plF B n i) : Rs Nat) else .inr (nxF B n i)) (fun i => landL T Λ B n i) = .inr (T, ud (ud (ud Λ 0 0 a13r) 0 1 a19r) 0 2 a51r, jr) := by
                      simp only [pf51, pg51x, ph23, pf19, pg19x, ph19a, pf13, pg13x, ph13a, eb, rb_a, rb_i, landL]
                    rw [ej] at hX51
                    refine hQ _ _ _ _ (FY_t (FY_t (FY_t (FY_t hy8 hy13) hy19) hy23) hy51) ?_
                    rw [hS]
                    rw [vv13, vv19]
                    subst vv51
                    have h11 : nv (Λ 1 1) = 0 := hz1 (fun z => by rw [if_pos z] at eb; cases eb)
                    refine ⟨hX51, hNR, ⟨⟨rfl, rfl, hL0.2.2.1, rfl, hL0.2.2.2.2.1.trans ?_, hL0.2.2.2.2.2.1, hL0.2.2.2.2.2.2.1, hL0.2.2.2.2.2.2.2.1, hL0.2.2.2.2.2.2.2.2.1, hL0.2.2.2.2.2.2.2.2.2.1, hL0.2.2.2.2.2.2.2.2.2.2.1, hL0.2.2.2.2.2.2.2.2.2.2.2.1, hL0.2.2.2.2.2.2.2.2.2.2.2.2.1, hL0.2.2.2.2.2.2.2.2.2.2.2.2.2.1, hL0.2.2.2.2.2.2.2.2.2.2.2.2.2.2⟩, hL1, hL2, hL3, hL4, hL5, hL6, hL7, hL8, hL9, hL10, hL11, hL12⟩⟩
                    show grF (Λ 2) (nv (Λ 1 1) * nv (Λ 0 0)) = grF (Λ 2) (nv (Λ 1 1) * nv a13r)
                    rw [h11, Nat.zero_mul, Nat.zero_mul]
                  · -- 55 not: D51r 0 9 = nI 5
                    refine And.intro ⟨rfl, rfl, Nat.le_refl _, Nat.le_refl _⟩ ?_
                    obtain ⟨er, ee⟩ := RX_5 hX51 cz55
                    rw [ee] at hX51
                    subst eX51
                    subst eX23
                    subst eX19
                    subst eX19a
                    subst eX13
                    subst eX13a
                    subst eX8
                    refine hQ _ _ _ _ (FY_t (FY_t (FY_t (FY_t hy8 hy13) hy19) hy23) hy51) (lnPt_l (Eq.trans ?_ ee) hX51)
                    simp only [rb_a, rb_i, rb_d, landL]
            · -- 27 not: ¬ bi (wqX B n X23r (lN 6605428)) = 0
              refine And.intro (fun cz46 => ?_) (fun cz46 => False.elim (absurd cz46 (by decide)))
              refine And.intro ⟨by omega, Nat.le_of_ble_eq_true rfl, Nat.le_refl _, Nat.le_refl _⟩ (And.intro (Wdo_142 hW) ?_)
              refine X211 hW hN hdq hX23 (fun i e => by rw [wq_2 (bi_ne0.mp cz27) e]; decide) (by omega) (fun D51r K51r hX51 hy51 => ?_)
              · -- a way behind the call
                have hpk51 := pk_y (cs := [lN 6605428, lN 238804, lN 464036]) (k := nI 0) (bi_ne0.mp cz27) (by decide) (by decide)
                rw [hpk51.1] at hX51
                have hv51 := hpk51.2
                generalize eX51 : rb X23r (fun i => rb (pPick [lN 6605428, lN 238804, lN 464036] B n i) fun a => .inr a.2) = X51r at hX51
                refine And.intro (Wdo_142 hW) ?_
                rw [pp_10 (x := 142) (by decide)]
                refine And.intro (fun cz55 => ?_) (fun cz55 => ?_)
                · -- 55 taken: ¬ D51r 0 9 = nI 5
                  obtain ⟨jr, ej⟩ := RX_n hX51 cz55; obtain ⟨p51r, pe51, ph51⟩ := rb_r (eX51.trans ej); obtain ⟨⟨a51r, q51r⟩, pf51, pg51⟩ := rb_r ph51; have vv51 := hv51 _ _ _ pe51 pf51; have pg51x : q51r = _ := Sum.inr.inj pg51; obtain ⟨p23r, pe23, ph23⟩ := rb_r (eX23.trans pe51); obtain ⟨p19r, pe19, ph19⟩ := rb_r (eX19.trans pe23); obtain ⟨⟨a19r, q19r⟩, pf19, pg19⟩ := rb_r ph19; have vv19 := hv19 _ _ _ pe19 pf19; have pg19x : q19r = _ := Sum.inr.inj pg19; obtain ⟨p19ar, pe19a, ph19a⟩ := rb_r (eX19a.trans pe19); obtain ⟨p13r, pe13, ph13⟩ := rb_r (eX13.trans pe19a); obtain ⟨⟨a13r, q13r⟩, pf13, pg13⟩ := rb_r ph13; have vv13 := hv13 _ _ _ pe13 pf13; have pg13x : q13r = _ := Sum.inr.inj pg13; obtain ⟨p13ar, pe13a, ph13a⟩ := rb_r (eX13a.trans pe13); have eb := eX8.trans pe13a
                  refine And.intro (Wdo_142 hW) (Exists.intro _ (And.intro hq4 ?_))
                  refine And.intro (NWo_0 hN) ?_
                  rw [pp_u20 (y := q) (by omega) (by decide)]
                  refine And.intro (Wdo_142 hW) (Exists.intro _ (And.intro hq4 ?_))
                  refine And.intro (NWo_0 hN) ?_
                  rw [pp_u20 (y := q) (by omega) (by decide)]
                  refine And.intro (Wdo_142 hW) (Exists.intro _ (And.intro hq4 ?_))
                  refine And.intro (NWo_0 hN) ?_
                  rw [pp_u20 (y := q) (by omega) (by decide)]
                  refine And.intro ⟨rfl, rfl, Nat.le_refl _, Nat.le_refl _⟩ ?_
                  have hS : rb (if 0 < E 0 0 then (.inl (3, plF B n i) : Rs Nat) else .inr (nxF B n i)) (fun i => landL T Λ B n i) = .inr (T, ud (ud (ud Λ 0 0 a13r) 0 1 a19r) 0 2 a51r, jr) := by
                    simp only [pf51, pg51x, ph23, pf19, pg19x, ph19a, pf13, pg13x, ph13a, eb, rb_a, rb_i, landL]
                  rw [ej] at hX51
                  refine hQ _ _ _ _ (FY_t (FY_t (FY_t (FY_t hy8 hy13) hy19) hy23) hy51) ?_
                  rw [hS]
                  rw [vv13, vv19]
                  subst vv51
                  have h11 : nv (Λ 1 1) = 0 := hz1 (fun z => by rw [if_pos z] at eb; cases eb)
                  refine ⟨hX51, hNR, ⟨⟨rfl, rfl, hL0.2.2.1, rfl, hL0.2.2.2.2.1.trans ?_, hL0.2.2.2.2.2.1, hL0.2.2.2.2.2.2.1, hL0.2.2.2.2.2.2.2.1, hL0.2.2.2.2.2.2.2.2.1, hL0.2.2.2.2.2.2.2.2.2.1, hL0.2.2.2.2.2.2.2.2.2.2.1, hL0.2.2.2.2.2.2.2.2.2.2.2.1, hL0.2.2.2.2.2.2.2.2.2.2.2.2.1, hL0.2.2.2.2.2.2.2.2.2.2.2.2.2.1, hL0.2.2.2.2.2.2.2.2.2.2.2.2.2.2⟩, hL1, hL2, hL3, hL4, hL5, hL6, hL7, hL8, hL9, hL10, hL11, hL12⟩⟩
                  show grF (Λ 2) (nv (Λ 1 1) * nv (Λ 0 0)) = grF (Λ 2) (nv (Λ 1 1) * nv a13r)
                  rw [h11, Nat.zero_mul, Nat.zero_mul]
                · -- 55 not: D51r 0 9 = nI 5
                  refine And.intro ⟨rfl, rfl, Nat.le_refl _, Nat.le_refl _⟩ ?_
                  obtain ⟨er, ee⟩ := RX_5 hX51 cz55
                  rw [ee] at hX51
                  subst eX51
                  subst eX23
                  subst eX19
                  subst eX19a
                  subst eX13
                  subst eX13a
                  subst eX8
                  refine hQ _ _ _ _ (FY_t (FY_t (FY_t (FY_t hy8 hy13) hy19) hy23) hy51) (lnPt_l (Eq.trans ?_ ee) hX51)
                  simp only [rb_a, rb_i, rb_d, landL]
  · -- 3 not: ¬ E 0 0 ≤ 0
    refine And.intro ⟨by omega, Nat.le_of_ble_eq_true rfl, Nat.le_refl _, Nat.le_refl _⟩ (And.intro (Wdo_142 hW) ?_)
    refine X212 (f := 3) hW hN hdq hX0 (fun D6r hX6 hy6 => ?_)
    · -- a way behind the call
      refine And.intro ⟨by omega, Nat.le_of_ble_eq_true rfl, Nat.le_refl _, Nat.le_refl _⟩ (And.intro (Wdo_142 hW) ?_)
      refine X211 hW hN hdq hX6 (fun i e => by cases e) (by omega) (fun D8r K8r hX8 hy8 => ?_)
      · -- a way behind the call
        change RX B n (.inl (3, plF B n i)) _ _ at hX8
        rw [show (.inl (3, plF B n i) : Rs Nat) = (if 0 < E 0 0 then (.inl (3, plF B n i) : Rs Nat) else .inr (nxF B n i)) from (if_pos (Int32.not_le.mp cz3)).symm] at hX8
        generalize eX8 : (if 0 < E 0 0 then (.inl (3, plF B n i) : Rs Nat) else .inr (nxF B n i)) = X8r at hX8
        refine And.intro ⟨by omega, Nat.le_of_ble_eq_true rfl, Nat.le_refl _, Nat.le_refl _⟩ (And.intro (Wdo_142 hW) ?_)
        refine X218 (s0 := 22) (w := lN 763013) hW hN hdq (by decide) (by decide) wo_22 hX8 (by omega) (fun D13r K13r v13r hX13 hy13 hv13 => ?_)
        generalize eX13a : rb X8r (fun i => pWord (lN 763013) B n i) = X13ar at hX13 hv13
        generalize eX13 : rb X13ar (fun i => rb (pWhole (nI 2) (nI 6) B n i) fun a => .inr a.2) = X13r at hX13
        · -- a way behind the call
          refine And.intro ⟨by omega, Nat.le_of_ble_eq_true rfl, Nat.le_refl _, Nat.le_refl _⟩ (And.intro (Wdo_142 hW) ?_)
          refine X218 (s0 := 23) (w := lN 271592) hW hN hdq (by decide) (by decide) wo_23 hX13 (by omega) (fun D19r K19r v19r hX19 hy19 hv19 => ?_)
          generalize eX19a : rb X13r (fun i => pWord (lN 271592) B n i) = X19ar at hX19 hv19
          generalize eX19 : rb X19ar (fun i => rb (pWhole (nI 1) (nI 4) B n i) fun a => .inr a.2) = X19r at hX19
          · -- a way behind the call
            refine And.intro ⟨by omega, Nat.le_of_ble_eq_true rfl, Nat.le_refl _, Nat.le_refl _⟩ (And.intro (Wdo_142 hW) ?_)
            refine X215 (s0 := 24) hW hN hdq (by decide) (by decide) wo_24 hX19 (by omega) (fun D23r K23r hX23 hy23 => ?_)
            generalize eX23 : rb X19r (fun i => pWord (lN 12343) B n i) = X23r at hX23
            · -- a way behind the call
              refine And.intro ⟨by omega, Nat.le_of_ble_eq_true rfl, Nat.le_refl _, Nat.le_refl _⟩ (And.intro (Wdo_142 hW) ?_)
              refine X213 (s0 := 25) hW hN hdq hX23 (by decide) (by decide) wo_25 (by omega) ?_
              refine And.intro (fun cz27 => ?_) (fun cz27 => ?_)
              · -- 27 taken: bi (wqX B n X23r (lN 6605428)) = 0
                refine And.intro ⟨by omega, Nat.le_of_ble_eq_true rfl, Nat.le_refl _, Nat.le_refl _⟩ (And.intro (Wdo_142 hW) ?_)
                refine X213 (s0 := 26) hW hN hdq hX23 (by decide) (by decide) wo_26 (by omega) ?_
                refine And.intro (fun cz33 => ?_) (fun cz33 => ?_)
                · -- 33 taken: bi (wqX B n X23r (lN 238804)) = 0
                  refine And.intro ⟨by omega, Nat.le_of_ble_eq_true rfl, Nat.le_refl _, Nat.le_refl _⟩ (And.intro (Wdo_142 hW) ?_)
                  refine X213 (s0 := 27) hW hN hdq hX23 (by decide) (by decide) wo_27 (by omega) ?_
                  refine And.intro (fun cz39 => ?_) (fun cz39 => ?_)
                  · -- 39 taken: bi (wqX B n X23r (lN 464036)) = 0
                    refine And.intro (fun cz46 => False.elim (cz46 rfl)) (fun cz46 => ?_)
                    refine And.intro ⟨by omega, Nat.le_of_ble_eq_true rfl, Nat.le_refl _, Nat.le_refl _⟩ (And.intro (Wdo_142 hW) ?_)
                    refine X212 (f := 1) hW hN hdq hX23 (fun D49r hX49 hy49 => ?_)
                    · -- a way behind the call
                      refine And.intro ⟨by omega, Nat.le_of_ble_eq_true rfl, Nat.le_refl _, Nat.le_refl _⟩ (And.intro (Wdo_142 hW) ?_)
                      refine X211 hW hN hdq hX49 (fun i e => by obtain ⟨_, _, h⟩ := rb_r e; cases h) (by omega) (fun D51r K51r hX51 hy51 => ?_)
                      · -- a way behind the call
                        have hpk51 := pk_n (X := X23r) (cs := [lN 6605428, lN 238804, lN 464036]) (fun i e h2 => by rw [ixF, if_neg (wq_n (bi_eq0.mp cz27) e h2), ixF, if_neg (wq_n (bi_eq0.mp cz33) e h2), ixF, if_neg (wq_n (bi_eq0.mp cz39) e h2), ixF])
                        rw [hpk51.1] at hX51
                        have hv51 : ∀ i9 a j, X23r = .inr i9 → pPick [lN 6605428, lN 238804, lN 464036] B n i9 = .inr (a, j) → -nI 1 = a := fun i9 a j e z => absurd z (hpk51.2 i9 a j e)
                        generalize eX51 : rb X23r (fun i => rb (pPick [lN 6605428, lN 238804, lN 464036] B n i) fun a => .inr a.2) = X51r at hX51
                        refine And.intro (Wdo_142 hW) ?_
                        rw [pp_10 (x := 142) (by decide)]
                        refine And.intro (fun cz55 => ?_) (fun cz55 => ?_)
                        · -- 55 taken: ¬ D51r 0 9 = nI 5
                          obtain ⟨jr, ej⟩ := RX_n hX51 cz55; obtain ⟨p51r, pe51, ph51⟩ := rb_r (eX51.trans ej); obtain ⟨⟨a51r, q51r⟩, pf51, pg51⟩ := rb_r ph51; have vv51 := hv51 _ _ _ pe51 pf51; have pg51x : q51r = _ := Sum.inr.inj pg51; obtain ⟨p23r, pe23, ph23⟩ := rb_r (eX23.trans pe51); obtain ⟨p19r, pe19, ph19⟩ := rb_r (eX19.trans pe23); obtain ⟨⟨a19r, q19r⟩, pf19, pg19⟩ := rb_r ph19; have vv19 := hv19 _ _ _ pe19 pf19; have pg19x : q19r = _ := Sum.inr.inj pg19; obtain ⟨p19ar, pe19a, ph19a⟩ := rb_r (eX19a.trans pe19); obtain ⟨p13r, pe13, ph13⟩ := rb_r (eX13.trans pe19a); obtain ⟨⟨a13r, q13r⟩, pf13, pg13⟩ := rb_r ph13; have vv13 := hv13 _ _ _ pe13 pf13; have pg13x : q13r = _ := Sum.inr.inj pg13; obtain ⟨p13ar, pe13a, ph13a⟩ := rb_r (eX13a.trans pe13); have eb := eX8.trans pe13a
                          refine And.intro (Wdo_142 hW) (Exists.intro _ (And.intro hq4 ?_))
                          refine And.intro (NWo_0 hN) ?_
                          rw [pp_u20 (y := q) (by omega) (by decide)]
                          refine And.intro (Wdo_142 hW) (Exists.intro _ (And.intro hq4 ?_))
                          refine And.intro (NWo_0 hN) ?_
                          rw [pp_u20 (y := q) (by omega) (by decide)]
                          refine And.intro (Wdo_142 hW) (Exists.intro _ (And.intro hq4 ?_))
                          refine And.intro (NWo_0 hN) ?_
                          rw [pp_u20 (y := q) (by omega) (by decide)]
                          refine And.intro ⟨rfl, rfl, Nat.le_refl _, Nat.le_refl _⟩ ?_
                          have hS : rb (if 0 < E 0 0 then (.inl (3, plF B n i) : Rs Nat) else .inr (nxF B n i)) (fun i => landL T Λ B n i) = .inr (T, ud (ud (ud Λ 0 0 a13r) 0 1 a19r) 0 2 a51r, jr) := by
                            simp only [pf51, pg51x, ph23, pf19, pg19x, ph19a, pf13, pg13x, ph13a, eb, rb_a, rb_i, landL]
                          rw [ej] at hX51
                          refine hQ _ _ _ _ (FY_t (FY_t (FY_t (FY_t (FY_t (FY_t hy6 hy8) hy13) hy19) hy23) hy49) hy51) ?_
                          rw [hS]
                          rw [vv13, vv19]
                          subst vv51
                          have h11 : nv (Λ 1 1) = 0 := hz1 (fun z => by rw [if_pos z] at eb; cases eb)
                          refine ⟨hX51, hNR, ⟨⟨rfl, rfl, hL0.2.2.1, rfl, hL0.2.2.2.2.1.trans ?_, hL0.2.2.2.2.2.1, hL0.2.2.2.2.2.2.1, hL0.2.2.2.2.2.2.2.1, hL0.2.2.2.2.2.2.2.2.1, hL0.2.2.2.2.2.2.2.2.2.1, hL0.2.2.2.2.2.2.2.2.2.2.1, hL0.2.2.2.2.2.2.2.2.2.2.2.1, hL0.2.2.2.2.2.2.2.2.2.2.2.2.1, hL0.2.2.2.2.2.2.2.2.2.2.2.2.2.1, hL0.2.2.2.2.2.2.2.2.2.2.2.2.2.2⟩, hL1, hL2, hL3, hL4, hL5, hL6, hL7, hL8, hL9, hL10, hL11, hL12⟩⟩
                          show grF (Λ 2) (nv (Λ 1 1) * nv (Λ 0 0)) = grF (Λ 2) (nv (Λ 1 1) * nv a13r)
                          rw [h11, Nat.zero_mul, Nat.zero_mul]
                        · -- 55 not: D51r 0 9 = nI 5
                          refine And.intro ⟨rfl, rfl, Nat.le_refl _, Nat.le_refl _⟩ ?_
                          obtain ⟨er, ee⟩ := RX_5 hX51 cz55
                          rw [ee] at hX51
                          subst eX51
                          subst eX23
                          subst eX19
                          subst eX19a
                          subst eX13
                          subst eX13a
                          subst eX8
                          refine hQ _ _ _ _ (FY_t (FY_t (FY_t (FY_t (FY_t (FY_t hy6 hy8) hy13) hy19) hy23) hy49) hy51) (lnPt_l (Eq.trans ?_ ee) hX51)
                          simp only [rb_a, rb_i, rb_d, landL]
                  · -- 39 not: ¬ bi (wqX B n X23r (lN 464036)) = 0
                    refine And.intro (fun cz46 => ?_) (fun cz46 => False.elim (absurd cz46 (by decide)))
                    refine And.intro ⟨by omega, Nat.le_of_ble_eq_true rfl, Nat.le_refl _, Nat.le_refl _⟩ (And.intro (Wdo_142 hW) ?_)
                    refine X211 hW hN hdq hX23 (fun i e => by rw [wq_2 (bi_ne0.mp cz39) e]; decide) (by omega) (fun D51r K51r hX51 hy51 => ?_)
                    · -- a way behind the call
                      have hpk51 := pk_y (cs := [lN 6605428, lN 238804, lN 464036]) (k := nI 2) (bi_ne0.mp cz39) (by decide) (by decide)
                      rw [hpk51.1] at hX51
                      have hv51 := hpk51.2
                      generalize eX51 : rb X23r (fun i => rb (pPick [lN 6605428, lN 238804, lN 464036] B n i) fun a => .inr a.2) = X51r at hX51
                      refine And.intro (Wdo_142 hW) ?_
                      rw [pp_10 (x := 142) (by decide)]
                      refine And.intro (fun cz55 => ?_) (fun cz55 => ?_)
                      · -- 55 taken: ¬ D51r 0 9 = nI 5
                        obtain ⟨jr, ej⟩ := RX_n hX51 cz55; obtain ⟨p51r, pe51, ph51⟩ := rb_r (eX51.trans ej); obtain ⟨⟨a51r, q51r⟩, pf51, pg51⟩ := rb_r ph51; have vv51 := hv51 _ _ _ pe51 pf51; have pg51x : q51r = _ := Sum.inr.inj pg51; obtain ⟨p23r, pe23, ph23⟩ := rb_r (eX23.trans pe51); obtain ⟨p19r, pe19, ph19⟩ := rb_r (eX19.trans pe23); obtain ⟨⟨a19r, q19r⟩, pf19, pg19⟩ := rb_r ph19; have vv19 := hv19 _ _ _ pe19 pf19; have pg19x : q19r = _ := Sum.inr.inj pg19; obtain ⟨p19ar, pe19a, ph19a⟩ := rb_r (eX19a.trans pe19); obtain ⟨p13r, pe13, ph13⟩ := rb_r (eX13.trans pe19a); obtain ⟨⟨a13r, q13r⟩, pf13, pg13⟩ := rb_r ph13; have vv13 := hv13 _ _ _ pe13 pf13; have pg13x : q13r = _ := Sum.inr.inj pg13; obtain ⟨p13ar, pe13a, ph13a⟩ := rb_r (eX13a.trans pe13); have eb := eX8.trans pe13a
                        refine And.intro (Wdo_142 hW) (Exists.intro _ (And.intro hq4 ?_))
                        refine And.intro (NWo_0 hN) ?_
                        rw [pp_u20 (y := q) (by omega) (by decide)]
                        refine And.intro (Wdo_142 hW) (Exists.intro _ (And.intro hq4 ?_))
                        refine And.intro (NWo_0 hN) ?_
                        rw [pp_u20 (y := q) (by omega) (by decide)]
                        refine And.intro (Wdo_142 hW) (Exists.intro _ (And.intro hq4 ?_))
                        refine And.intro (NWo_0 hN) ?_
                        rw [pp_u20 (y := q) (by omega) (by decide)]
                        refine And.intro ⟨rfl, rfl, Nat.le_refl _, Nat.le_refl _⟩ ?_
                        have hS : rb (if 0 < E 0 0 then (.inl (3, plF B n i) : Rs Nat) else .inr (nxF B n i)) (fun i => landL T Λ B n i) = .inr (T, ud (ud (ud Λ 0 0 a13r) 0 1 a19r) 0 2 a51r, jr) := by
                          simp only [pf51, pg51x, ph23, pf19, pg19x, ph19a, pf13, pg13x, ph13a, eb, rb_a, rb_i, landL]
                        rw [ej] at hX51
                        refine hQ _ _ _ _ (FY_t (FY_t (FY_t (FY_t (FY_t hy6 hy8) hy13) hy19) hy23) hy51) ?_
                        rw [hS]
                        rw [vv13, vv19]
                        subst vv51
                        have h11 : nv (Λ 1 1) = 0 := hz1 (fun z => by rw [if_pos z] at eb; cases eb)
                        refine ⟨hX51, hNR, ⟨⟨rfl, rfl, hL0.2.2.1, rfl, hL0.2.2.2.2.1.trans ?_, hL0.2.2.2.2.2.1, hL0.2.2.2.2.2.2.1, hL0.2.2.2.2.2.2.2.1, hL0.2.2.2.2.2.2.2.2.1, hL0.2.2.2.2.2.2.2.2.2.1, hL0.2.2.2.2.2.2.2.2.2.2.1, hL0.2.2.2.2.2.2.2.2.2.2.2.1, hL0.2.2.2.2.2.2.2.2.2.2.2.2.1, hL0.2.2.2.2.2.2.2.2.2.2.2.2.2.1, hL0.2.2.2.2.2.2.2.2.2.2.2.2.2.2⟩, hL1, hL2, hL3, hL4, hL5, hL6, hL7, hL8, hL9, hL10, hL11, hL12⟩⟩
                        show grF (Λ 2) (nv (Λ 1 1) * nv (Λ 0 0)) = grF (Λ 2) (nv (Λ 1 1) * nv a13r)
                        rw [h11, Nat.zero_mul, Nat.zero_mul]
                      · -- 55 not: D51r 0 9 = nI 5
                        refine And.intro ⟨rfl, rfl, Nat.le_refl _, Nat.le_refl _⟩ ?_
                        obtain ⟨er, ee⟩ := RX_5 hX51 cz55
                        rw [ee] at hX51
                        subst eX51
                        subst eX23
                        subst eX19
                        subst eX19a
                        subst eX13
                        subst eX13a
                        subst eX8
                        refine hQ _ _ _ _ (FY_t (FY_t (FY_t (FY_t (FY_t hy6 hy8) hy13) hy19) hy23) hy51) (lnPt_l (Eq.trans ?_ ee) hX51)
                        simp only [rb_a, rb_i, rb_d, landL]
                · -- 33 not: ¬ bi (wqX B n X23r (lN 238804)) = 0
                  refine And.intro (fun cz46 => ?_) (fun cz46 => False.elim (absurd cz46 (by decide)))
                  refine And.intro ⟨by omega, Nat.le_of_ble_eq_true rfl, Nat.le_refl _, Nat.le_refl _⟩ (And.intro (Wdo_142 hW) ?_)
                  refine X211 hW hN hdq hX23 (fun i e => by rw [wq_2 (bi_ne0.mp cz33) e]; decide) (by omega) (fun D51r K51r hX51 hy51 => ?_)
                  · -- a way behind the call
                    have hpk51 := pk_y (cs := [lN 6605428, lN 238804, lN 464036]) (k := nI 1) (bi_ne0.mp cz33) (by decide) (by decide)
                    rw [hpk51.1] at hX51
                    have hv51 := hpk51.2
                    generalize eX51 : rb X23r (fun i => rb (pPick [lN 6605428, lN 238804, lN 464036] B n i) fun a => .inr a.2) = X51r at hX51
                    refine And.intro (Wdo_142 hW) ?_
                    rw [pp_10 (x := 142) (by decide)]
                    refine And.intro (fun cz55 => ?_) (fun cz55 => ?_)
                    · -- 55 taken: ¬ D51r 0 9 = nI 5
                      obtain ⟨jr, ej⟩ := RX_n hX51 cz55; obtain ⟨p51r, pe51, ph51⟩ := rb_r (eX51.trans ej); obtain ⟨⟨a51r, q51r⟩, pf51, pg51⟩ := rb_r ph51; have vv51 := hv51 _ _ _ pe51 pf51; have pg51x : q51r = _ := Sum.inr.inj pg51; obtain ⟨p23r, pe23, ph23⟩ := rb_r (eX23.trans pe51); obtain ⟨p19r, pe19, ph19⟩ := rb_r (eX19.trans pe23); obtain ⟨⟨a19r, q19r⟩, pf19, pg19⟩ := rb_r ph19; have vv19 := hv19 _ _ _ pe19 pf19; have pg19x : q19r = _ := Sum.inr.inj pg19; obtain ⟨p19ar, pe19a, ph19a⟩ := rb_r (eX19a.trans pe19); obtain ⟨p13r, pe13, ph13⟩ := rb_r (eX13.trans pe19a); obtain ⟨⟨a13r, q13r⟩, pf13, pg13⟩ := rb_r ph13; have vv13 := hv13 _ _ _ pe13 pf13; have pg13x : q13r = _ := Sum.inr.inj pg13; obtain ⟨p13ar, pe13a, ph13a⟩ := rb_r (eX13a.trans pe13); have eb := eX8.trans pe13a
                      refine And.intro (Wdo_142 hW) (Exists.intro _ (And.intro hq4 ?_))
                      refine And.intro (NWo_0 hN) ?_
                      rw [pp_u20 (y := q) (by omega) (by decide)]
                      refine And.intro (Wdo_142 hW) (Exists.intro _ (And.intro hq4 ?_))
                      refine And.intro (NWo_0 hN) ?_
                      rw [pp_u20 (y := q) (by omega) (by decide)]
                      refine And.intro (Wdo_142 hW) (Exists.intro _ (And.intro hq4 ?_))
                      refine And.intro (NWo_0 hN) ?_
                      rw [pp_u20 (y := q) (by omega) (by decide)]
                      refine And.intro ⟨rfl, rfl, Nat.le_refl _, Nat.le_refl _⟩ ?_
                      have hS : rb (if 0 < E 0 0 then (.inl (3, plF B n i) : Rs Nat) else .inr (nxF B n i)) (fun i => landL T Λ B n i) = .inr (T, ud (ud (ud Λ 0 0 a13r) 0 1 a19r) 0 2 a51r, jr) := by
                        simp only [pf51, pg51x, ph23, pf19, pg19x, ph19a, pf13, pg13x, ph13a, eb, rb_a, rb_i, landL]
                      rw [ej] at hX51
                      refine hQ _ _ _ _ (FY_t (FY_t (FY_t (FY_t (FY_t hy6 hy8) hy13) hy19) hy23) hy51) ?_
                      rw [hS]
                      rw [vv13, vv19]
                      subst vv51
                      have h11 : nv (Λ 1 1) = 0 := hz1 (fun z => by rw [if_pos z] at eb; cases eb)
                      refine ⟨hX51, hNR, ⟨⟨rfl, rfl, hL0.2.2.1, rfl, hL0.2.2.2.2.1.trans ?_, hL0.2.2.2.2.2.1, hL0.2.2.2.2.2.2.1, hL0.2.2.2.2.2.2.2.1, hL0.2.2.2.2.2.2.2.2.1, hL0.2.2.2.2.2.2.2.2.2.1, hL0.2.2.2.2.2.2.2.2.2.2.1, hL0.2.2.2.2.2.2.2.2.2.2.2.1, hL0.2.2.2.2.2.2.2.2.2.2.2.2.1, hL0.2.2.2.2.2.2.2.2.2.2.2.2.2.1, hL0.2.2.2.2.2.2.2.2.2.2.2.2.2.2⟩, hL1, hL2, hL3, hL4, hL5, hL6, hL7, hL8, hL9, hL10, hL11, hL12⟩⟩
                      show grF (Λ 2) (nv (Λ 1 1) * nv (Λ 0 0)) = grF (Λ 2) (nv (Λ 1 1) * nv a13r)
                      rw [h11, Nat.zero_mul, Nat.zero_mul]
                    · -- 55 not: D51r 0 9 = nI 5
                      refine And.intro ⟨rfl, rfl, Nat.le_refl _, Nat.le_refl _⟩ ?_
                      obtain ⟨er, ee⟩ := RX_5 hX51 cz55
                      rw [ee] at hX51
                      subst eX51
                      subst eX23
                      subst eX19
                      subst eX19a
                      subst eX13
                      subst eX13a
                      subst eX8
                      refine hQ _ _ _ _ (FY_t (FY_t (FY_t (FY_t (FY_t hy6 hy8) hy13) hy19) hy23) hy51) (lnPt_l (Eq.trans ?_ ee) hX51)
                      simp only [rb_a, rb_i, rb_d, landL]
              · -- 27 not: ¬ bi (wqX B n X23r (lN 6605428)) = 0
                refine And.intro (fun cz46 => ?_) (fun cz46 => False.elim (absurd cz46 (by decide)))
                refine And.intro ⟨by omega, Nat.le_of_ble_eq_true rfl, Nat.le_refl _, Nat.le_refl _⟩ (And.intro (Wdo_142 hW) ?_)
                refine X211 hW hN hdq hX23 (fun i e => by rw [wq_2 (bi_ne0.mp cz27) e]; decide) (by omega) (fun D51r K51r hX51 hy51 => ?_)
                · -- a way behind the call
                  have hpk51 := pk_y (cs := [lN 6605428, lN 238804, lN 464036]) (k := nI 0) (bi_ne0.mp cz27) (by decide) (by decide)
                  rw [hpk51.1] at hX51
                  have hv51 := hpk51.2
                  generalize eX51 : rb X23r (fun i => rb (pPick [lN 6605428, lN 238804, lN 464036] B n i) fun a => .inr a.2) = X51r at hX51
                  refine And.intro (Wdo_142 hW) ?_
                  rw [pp_10 (x := 142) (by decide)]
                  refine And.intro (fun cz55 => ?_) (fun cz55 => ?_)
                  · -- 55 taken: ¬ D51r 0 9 = nI 5
                    obtain ⟨jr, ej⟩ := RX_n hX51 cz55; obtain ⟨p51r, pe51, ph51⟩ := rb_r (eX51.trans ej); obtain ⟨⟨a51r, q51r⟩, pf51, pg51⟩ := rb_r ph51; have vv51 := hv51 _ _ _ pe51 pf51; have pg51x : q51r = _ := Sum.inr.inj pg51; obtain ⟨p23r, pe23, ph23⟩ := rb_r (eX23.trans pe51); obtain ⟨p19r, pe19, ph19⟩ := rb_r (eX19.trans pe23); obtain ⟨⟨a19r, q19r⟩, pf19, pg19⟩ := rb_r ph19; have vv19 := hv19 _ _ _ pe19 pf19; have pg19x : q19r = _ := Sum.inr.inj pg19; obtain ⟨p19ar, pe19a, ph19a⟩ := rb_r (eX19a.trans pe19); obtain ⟨p13r, pe13, ph13⟩ := rb_r (eX13.trans pe19a); obtain ⟨⟨a13r, q13r⟩, pf13, pg13⟩ := rb_r ph13; have vv13 := hv13 _ _ _ pe13 pf13; have pg13x : q13r = _ := Sum.inr.inj pg13; obtain ⟨p13ar, pe13a, ph13a⟩ := rb_r (eX13a.trans pe13); have eb := eX8.trans pe13a
                    refine And.intro (Wdo_142 hW) (Exists.intro _ (And.intro hq4 ?_))
                    refine And.intro (NWo_0 hN) ?_
                    rw [pp_u20 (y := q) (by omega) (by decide)]
                    refine And.intro (Wdo_142 hW) (Exists.intro _ (And.intro hq4 ?_))
                    refine And.intro (NWo_0 hN) ?_
                    rw [pp_u20 (y := q) (by omega) (by decide)]
                    refine And.intro (Wdo_142 hW) (Exists.intro _ (And.intro hq4 ?_))
                    refine And.intro (NWo_0 hN) ?_
                    rw [pp_u20 (y := q) (by omega) (by decide)]
                    refine And.intro ⟨rfl, rfl, Nat.le_refl _, Nat.le_refl _⟩ ?_
                    have hS : rb (if 0 < E 0 0 then (.inl (3, plF B n i) : Rs Nat) else .inr (nxF B n i)) (fun i => landL T Λ B n i) = .inr (T, ud (ud (ud Λ 0 0 a13r) 0 1 a19r) 0 2 a51r, jr) := by
                      simp only [pf51, pg51x, ph23, pf19, pg19x, ph19a, pf13, pg13x, ph13a, eb, rb_a, rb_i, landL]
                    rw [ej] at hX51
                    refine hQ _ _ _ _ (FY_t (FY_t (FY_t (FY_t (FY_t hy6 hy8) hy13) hy19) hy23) hy51) ?_
                    rw [hS]
                    rw [vv13, vv19]
                    subst vv51
                    have h11 : nv (Λ 1 1) = 0 := hz1 (fun z => by rw [if_pos z] at eb; cases eb)
                    refine ⟨hX51, hNR, ⟨⟨rfl, rfl, hL0.2.2.1, rfl, hL0.2.2.2.2.1.trans ?_, hL0.2.2.2.2.2.1, hL0.2.2.2.2.2.2.1, hL0.2.2.2.2.2.2.2.1, hL0.2.2.2.2.2.2.2.2.1, hL0.2.2.2.2.2.2.2.2.2.1, hL0.2.2.2.2.2.2.2.2.2.2.1, hL0.2.2.2.2.2.2.2.2.2.2.2.1, hL0.2.2.2.2.2.2.2.2.2.2.2.2.1, hL0.2.2.2.2.2.2.2.2.2.2.2.2.2.1, hL0.2.2.2.2.2.2.2.2.2.2.2.2.2.2⟩, hL1, hL2, hL3, hL4, hL5, hL6, hL7, hL8, hL9, hL10, hL11, hL12⟩⟩
                    show grF (Λ 2) (nv (Λ 1 1) * nv (Λ 0 0)) = grF (Λ 2) (nv (Λ 1 1) * nv a13r)
                    rw [h11, Nat.zero_mul, Nat.zero_mul]
                  · -- 55 not: D51r 0 9 = nI 5
                    refine And.intro ⟨rfl, rfl, Nat.le_refl _, Nat.le_refl _⟩ ?_
                    obtain ⟨er, ee⟩ := RX_5 hX51 cz55
                    rw [ee] at hX51
                    subst eX51
                    subst eX23
                    subst eX19
                    subst eX19a
                    subst eX13
                    subst eX13a
                    subst eX8
                    refine hQ _ _ _ _ (FY_t (FY_t (FY_t (FY_t (FY_t hy6 hy8) hy13) hy19) hy23) hy51) (lnPt_l (Eq.trans ?_ ee) hX51)
                    simp only [rb_a, rb_i, rb_d, landL]
