theorem bindv {X : Rs Nat} {g : Nat → Rs (Int32 × Nat)} {v : Int32} {F : Int32 → Nat → Rs Nat} (hv : ∀ i a j, X = .inr i → g i = .inr (a, j) → v = a) : rb (rb X (fun i => rb (g i) fun a => .inr a.2)) (F v) = rb X (fun i => rb (g i) fun a => F a.1 a.2) := by
  cases X with
  | inl e => rfl
  | inr i =>
    show rb (rb (g i) _) _ = rb (g i) _
    cases h : g i with
    | inl e => rfl
    | inr a => show F v a.2 = F a.1 a.2; rw [hv i a.1 a.2 rfl h]
theorem L234 {d : Nat} {m : Mm} {Q : Option Value → Mm → Prop} {q : Nat} {E : Nat → Nat → Int32} {L : Nat → Nat → Int64} (hW : Wd m.2.2) (hN : NW m.2.2 q) (hdq : q + 29 ≤ 142 ∨ 142 + 3 ≤ q) {D : Nat → Nat → Int32} {K : Nat → Nat → Int64} {Λ : Nat → Nat → Int32} {T : NT} (hq4 : va_rf (mR m 142 4) = .ref q) (hLQ : LQ Λ E) (hNR : NR T E L) (hI : LRI T Λ) {B : Nat → Int32} {n i : Nat} (hR : RBy B n D) (hT : TR B n i D K) (hi : i ≤ n) (h14 : D 0 14 = nI 0) (kk2 : kiF B n i = 2) (hd : 13 ≤ d) (hQ : ∀ D1 K1 E1 L1, FY D D1 → lnPt B n 4 (rb (bgF (nI (nv (Λ 1 4))) (nI 6) (E 0 0) B n i) (fun i => godL T Λ B n i)) D1 K1 E1 L1 → Q none (pp m 142 3 D1 K1 q 29 E1 L1)) : Cc d 0 0 234 [.ref 142] (pp m 142 3 D K q 29 E L) Q := by
  obtain ⟨hL0, hL1, hL2, hL3, hL4, hL5, hL6, hL7, hL8, hL9, hL10, hL11, hL12⟩ := hLQ
  obtain ⟨hC, hWI, hNN, hVI⟩ := hI
  obtain ⟨hn0, hTS2, hTS4, hTS8⟩ := hNN
  have hc2q := hC 2 (by decide)
  have hc4q := hC 4 (by decide)
  have hc8q := hC 8 (by decide)
  have hc10q := hC 10 (by decide)
  have hc4q := hC 4 (by decide)
  refine ent (n := 262) z234 (by decide) rfl (by decide) (Nat.le_of_ble_eq_true rfl) (fun sc => ?_)
  refine And.intro (Wdo_142 hW) (Exists.intro _ (And.intro hq4 ?_))
  refine And.intro (NWo_0 hN) ?_
  rw [pp_20 (y := q) (by omega) (by decide)]
  rw [(show E 0 6 = nI (nv (Λ 1 4)) from hL0.2.2.2.2.2.2.1.trans hc4q.1)]
  refine And.intro ⟨by omega, Nat.le_of_ble_eq_true rfl, Nat.le_refl _, Nat.le_refl _⟩ (And.intro (Wdo_142 hW) ?_)
  refine L220 hW hN hdq hq4 hR hT hi h14 kk2 (by omega) (fun D5r K5r hX5 hy5 => ?_)
  generalize eX5 : bgF (nI ((nv (Λ 1 4)))) (nI 6) (E 0 0) B n i = X5r at hX5
  · -- a way behind the call
    show zw sc d 0 0 (mth 234).2.2.2.2.1 P234 (KJ sc d 0 0 (mth 234) P234 Q) Q 257 6 [some (.ref 142), none, none, none, none, none, none, none, none] [] (pp m 142 3 D5r K5r q 29 E L) 0 0
    refine And.intro ⟨by omega, Nat.le_of_ble_eq_true rfl, Nat.le_refl _, Nat.le_refl _⟩ (And.intro (Wdo_142 hW) ?_)
    refine X221 hW hN hdq hq4 hNR hX5 (by omega) (fun D7r K7r v7r hX7 hy7 hv7 => ?_)
    generalize eX7 : rb X5r (fun i => pTell T.2.1 T.1 B n i) = X7r at hX7
    · -- a way behind the call
      show zw sc d 0 0 (mth 234).2.2.2.2.1 P234 (KJ sc d 0 0 (mth 234) P234 Q) Q 255 8 [some (.ref 142), none, none, none, none, none, none, none, none] [.long v7r] (pp m 142 3 D7r K7r q 29 E L) 0 0
      refine And.intro ⟨by omega, Nat.le_of_ble_eq_true rfl, Nat.le_refl _, Nat.le_refl _⟩ (And.intro (Wdo_142 hW) ?_)
      refine X213 (s0 := 41) hW hN hdq hX7 (by decide) (by decide) wo_41 (by omega) ?_
      refine And.intro (fun cz12 => ?_) (fun cz12 => ?_)
      · -- 12 taken: bi (wqX B n X7r (lN 17171758)) = 0
        refine And.intro ⟨by omega, Nat.le_of_ble_eq_true rfl, Nat.le_refl _, Nat.le_refl _⟩ (And.intro (Wdo_142 hW) ?_)
        refine X213 (s0 := 42) hW hN hdq hX7 (by decide) (by decide) wo_42 (by omega) ?_
        refine And.intro (fun cz18 => ?_) (fun cz18 => ?_)
        · -- 18 taken: bi (wqX B n X7r (lN 17383076)) = 0
          refine And.intro ⟨by omega, Nat.le_of_ble_eq_true rfl, Nat.le_refl _, Nat.le_refl _⟩ (And.intro (Wdo_142 hW) ?_)
          refine X213 (s0 := 43) hW hN hdq hX7 (by decide) (by decide) wo_43 (by omega) ?_
          refine And.intro (fun cz24 => ?_) (fun cz24 => ?_)
          · -- 24 taken: bi (wqX B n X7r (lN 10906648243)) = 0
            refine And.intro ⟨by omega, Nat.le_of_ble_eq_true rfl, Nat.le_refl _, Nat.le_refl _⟩ (And.intro (Wdo_142 hW) ?_)
            refine X213 (s0 := 44) hW hN hdq hX7 (by decide) (by decide) wo_44 (by omega) ?_
            refine And.intro (fun cz30 => ?_) (fun cz30 => ?_)
            · -- 30 taken: bi (wqX B n X7r (lN 53875888)) = 0
              refine And.intro (fun cz37 => False.elim (cz37 rfl)) (fun cz37 => ?_)
              refine And.intro ⟨by omega, Nat.le_of_ble_eq_true rfl, Nat.le_refl _, Nat.le_refl _⟩ (And.intro (Wdo_142 hW) ?_)
              refine X212 (f := 1) hW hN hdq hX7 (fun D40r hX40 hy40 => ?_)
              · -- a way behind the call
                show zw sc d 0 0 (mth 234).2.2.2.2.1 P234 (KJ sc d 0 0 (mth 234) P234 Q) Q 230 41 [some (.ref 142), some (.long v7r), none, some (.int (-nI 1)), none, none, none, none, none] [] (pp m 142 3 D40r K7r q 29 E L) 0 0
                refine And.intro ⟨by omega, Nat.le_of_ble_eq_true rfl, Nat.le_refl _, Nat.le_refl _⟩ (And.intro (Wdo_142 hW) ?_)
                refine X211 hW hN hdq hX40 (fun i e => by obtain ⟨_, _, h⟩ := rb_r e; cases h) (by omega) (fun D42r K42r hX42 hy42 => ?_)
                · -- a way behind the call
                  have hpk42 := pk_n (X := X7r) (cs := [lN 17171758, lN 17383076, lN 10906648243, lN 53875888]) (fun i e h2 => by rw [ixF, if_neg (wq_n (bi_eq0.mp cz12) e h2), ixF, if_neg (wq_n (bi_eq0.mp cz18) e h2), ixF, if_neg (wq_n (bi_eq0.mp cz24) e h2), ixF, if_neg (wq_n (bi_eq0.mp cz30) e h2), ixF])
                  rw [hpk42.1] at hX42
                  have hv42 : ∀ i9 a j, X7r = .inr i9 → pPick [lN 17171758, lN 17383076, lN 10906648243, lN 53875888] B n i9 = .inr (a, j) → -nI 1 = a := fun i9 a j e z => absurd z (hpk42.2 i9 a j e)
                  generalize eX42 : rb X7r (fun i => rb (pPick [lN 17171758, lN 17383076, lN 10906648243, lN 53875888] B n i) fun a => .inr a.2) = X42r at hX42
                  show zw sc d 0 0 (mth 234).2.2.2.2.1 P234 (KJ sc d 0 0 (mth 234) P234 Q) Q 228 43 [some (.ref 142), some (.long v7r), none, some (.int (-nI 1)), none, none, none, none, none] [] (pp m 142 3 D42r K42r q 29 E L) 0 0
                  refine And.intro ⟨by omega, Nat.le_of_ble_eq_true rfl, Nat.le_refl _, Nat.le_refl _⟩ (And.intro (Wdo_142 hW) ?_)
                  refine X218 (s0 := 45) (w := lN 17376357) hW hN hdq (by decide) (by decide) wo_45 hX42 (by omega) (fun D47r K47r v47r hX47 hy47 hv47 => ?_)
                  generalize eX47a : rb X42r (fun i => pWord (lN 17376357) B n i) = X47ar at hX47 hv47
                  generalize eX47 : rb X47ar (fun i => rb (pWhole (nI 0) (nI 99) B n i) fun a => .inr a.2) = X47r at hX47
                  · -- a way behind the call
                    show zw sc d 0 0 (mth 234).2.2.2.2.1 P234 (KJ sc d 0 0 (mth 234) P234 Q) Q 223 48 [some (.ref 142), some (.long v7r), none, some (.int (-nI 1)), none, none, none, none, none] [.int v47r] (pp m 142 3 D47r K47r q 29 E L) 0 0
                    refine And.intro ⟨by omega, Nat.le_of_ble_eq_true rfl, Nat.le_refl _, Nat.le_refl _⟩ (And.intro (Wdo_142 hW) ?_)
                    refine X218 (s0 := 46) (w := lN 643389619) hW hN hdq (by decide) (by decide) wo_46 hX47 (by omega) (fun D53r K53r v53r hX53 hy53 hv53 => ?_)
                    generalize eX53a : rb X47r (fun i => pWord (lN 643389619) B n i) = X53ar at hX53 hv53
                    generalize eX53 : rb X53ar (fun i => rb (pWhole (nI 1) (nI 9) B n i) fun a => .inr a.2) = X53r at hX53
                    · -- a way behind the call
                      show zw sc d 0 0 (mth 234).2.2.2.2.1 P234 (KJ sc d 0 0 (mth 234) P234 Q) Q 217 54 [some (.ref 142), some (.long v7r), none, some (.int (-nI 1)), some (.int v47r), none, none, none, none] [.int v53r] (pp m 142 3 D53r K53r q 29 E L) 0 0
                      refine And.intro ⟨by omega, Nat.le_of_ble_eq_true rfl, Nat.le_refl _, Nat.le_refl _⟩ (And.intro (Wdo_142 hW) ?_)
                      refine X218 (s0 := 47) (w := lN 215533) hW hN hdq (by decide) (by decide) wo_47 hX53 (by omega) (fun D59r K59r v59r hX59 hy59 hv59 => ?_)
                      generalize eX59a : rb X53r (fun i => pWord (lN 215533) B n i) = X59ar at hX59 hv59
                      generalize eX59 : rb X59ar (fun i => rb (pWhole (nI 0) (nI 23) B n i) fun a => .inr a.2) = X59r at hX59
                      · -- a way behind the call
                        show zw sc d 0 0 (mth 234).2.2.2.2.1 P234 (KJ sc d 0 0 (mth 234) P234 Q) Q 211 60 [some (.ref 142), some (.long v7r), none, some (.int (-nI 1)), some (.int v47r), some (.int v53r), none, none, none] [.int v59r] (pp m 142 3 D59r K59r q 29 E L) 0 0
                        refine And.intro ⟨by omega, Nat.le_of_ble_eq_true rfl, Nat.le_refl _, Nat.le_refl _⟩ (And.intro (Wdo_142 hW) ?_)
                        refine X218 (s0 := 48) (w := lN 655) hW hN hdq (by decide) (by decide) wo_48 hX59 (by omega) (fun D67r K67r v67r hX67 hy67 hv67 => ?_)
                        generalize eX67a : rb X59r (fun i => pWord (lN 655) B n i) = X67ar at hX67 hv67
                        generalize eX67 : rb X67ar (fun i => rb (pWhole (v59r + nI 1) (nI 24) B n i) fun a => .inr a.2) = X67r at hX67
                        · -- a way behind the call
                          show zw sc d 0 0 (mth 234).2.2.2.2.1 P234 (KJ sc d 0 0 (mth 234) P234 Q) Q 203 68 [some (.ref 142), some (.long v7r), none, some (.int (-nI 1)), some (.int v47r), some (.int v53r), some (.int v59r), none, none] [.int v67r] (pp m 142 3 D67r K67r q 29 E L) 0 0
                          refine And.intro (Wdo_142 hW) ?_
                          rw [pp_10 (x := 142) (by decide)]
                          refine And.intro (fun cz72 => ?_) (fun cz72 => ?_)
                          · -- 72 taken: ¬ D67r 0 9 = nI 5
                            obtain ⟨jr, ej⟩ := RX_n hX67 cz72; obtain ⟨p67r, pe67, ph67⟩ := rb_r (eX67.trans ej); obtain ⟨⟨a67r, q67r⟩, pf67, pg67⟩ := rb_r ph67; have vv67 := hv67 _ _ _ pe67 pf67; have pg67x : q67r = _ := Sum.inr.inj pg67; obtain ⟨p67ar, pe67a, ph67a⟩ := rb_r (eX67a.trans pe67); obtain ⟨p59r, pe59, ph59⟩ := rb_r (eX59.trans pe67a); obtain ⟨⟨a59r, q59r⟩, pf59, pg59⟩ := rb_r ph59; have vv59 := hv59 _ _ _ pe59 pf59; have pg59x : q59r = _ := Sum.inr.inj pg59; obtain ⟨p59ar, pe59a, ph59a⟩ := rb_r (eX59a.trans pe59); obtain ⟨p53r, pe53, ph53⟩ := rb_r (eX53.trans pe59a); obtain ⟨⟨a53r, q53r⟩, pf53, pg53⟩ := rb_r ph53; have vv53 := hv53 _ _ _ pe53 pf53; have pg53x : q53r = _ := Sum.inr.inj pg53; obtain ⟨p53ar, pe53a, ph53a⟩ := rb_r (eX53a.trans pe53); obtain ⟨p47r, pe47, ph47⟩ := rb_r (eX47.trans pe53a); obtain ⟨⟨a47r, q47r⟩, pf47, pg47⟩ := rb_r ph47; have vv47 := hv47 _ _ _ pe47 pf47; have pg47x : q47r = _ := Sum.inr.inj pg47; obtain ⟨p47ar, pe47a, ph47a⟩ := rb_r (eX47a.trans pe47); obtain ⟨p42r, pe42, ph42⟩ := rb_r (eX42.trans pe47a); obtain ⟨⟨a42r, q42r⟩, pf42, pg42⟩ := rb_r ph42; have vv42 := hv42 _ _ _ pe42 pf42; have pg42x : q42r = _ := Sum.inr.inj pg42; obtain ⟨p7r, pe7, ph7⟩ := rb_r (eX7.trans pe42); have vv7 := hv7 _ _ pe7 ph7; have eb := eX5.trans pe7; obtain ⟨hb1, hb2, hb3⟩ := bgF_r eb
                            have hlt : nv (Λ 1 4) < 6 := by rcases Nat.lt_or_ge (nv (Λ 1 4)) 6 with z | z; exact z; exact absurd (congrArg nI (show nv (Λ 1 4) = 6 by have := hc4q.2; change _ ≤ 6 at this; omega)) hb1
                            rw [vv59] at pf67
                            have ht24 : T.1 < 24 := by have a2 := hc2q.2; have a4 := hc4q.2; have a8 := hc8q.2; have a0 := hc10q.2; change _ ≤ 6 at a2; change _ ≤ 6 at a4; change _ ≤ 8 at a8; change _ ≤ 4 at a0; omega
                            refine And.intro (Wdo_142 hW) (Exists.intro _ (And.intro hq4 ?_))
                            refine And.intro (NWo_0 hN) ?_
                            rw [pp_20 (y := q) (by omega) (by decide)]
                            rw [(show E 0 6 = nI (nv (Λ 1 4)) from hL0.2.2.2.2.2.2.1.trans hc4q.1)]
                            refine And.intro ⟨by omega, Nat.le_of_ble_eq_true rfl, Nat.le_refl _, Nat.le_refl _⟩ (And.intro (Wdo_142 hW) ?_)
                            refine D222 (k := T.1) hW hN hdq hq4 hNR.1 (by omega) ?_
                            unfold nmE
                            refine And.intro (Wdo_142 hW) (Exists.intro _ (And.intro hq4 ?_))
                            refine And.intro (NWo_0 hN) (Exists.intro _ (And.intro (NWr_0_18 hN) ?_))
                            refine And.intro (NWi_2 hN (vi rfl (by omega))) ?_
                            rw [nI_clamp (show (nv (Λ 1 4)) < 2 ^ 31 by omega)]
                            rw [pp_u2 (y := q) (f := 2) (by omega) (by decide)]
                            refine And.intro (Wdo_142 hW) (Exists.intro _ (And.intro hq4 ?_))
                            refine And.intro (NWo_0 hN) (Exists.intro _ (And.intro (NWr_0_19 hN) ?_))
                            refine And.intro (NWi_3 hN (vi rfl (by omega))) ?_
                            rw [nI_clamp (show (nv (Λ 1 4)) < 2 ^ 31 by omega)]
                            rw [pp_u2 (y := q) (f := 3) (by omega) (by decide)]
                            refine And.intro (Wdo_142 hW) (Exists.intro _ (And.intro hq4 ?_))
                            refine And.intro (NWo_0 hN) (Exists.intro _ (And.intro (NWr_0_20 hN) ?_))
                            refine And.intro (NWi_4 hN (vi rfl (by omega))) ?_
                            rw [nI_clamp (show (nv (Λ 1 4)) < 2 ^ 31 by omega)]
                            rw [pp_u2 (y := q) (f := 4) (by omega) (by decide)]
                            refine And.intro (Wdo_142 hW) (Exists.intro _ (And.intro hq4 ?_))
                            refine And.intro (NWo_0 hN) (Exists.intro _ (And.intro (NWr_0_21 hN) ?_))
                            refine And.intro (NWi_5 hN (vi rfl (by omega))) ?_
                            rw [nI_clamp (show (nv (Λ 1 4)) < 2 ^ 31 by omega)]
                            rw [pp_u2 (y := q) (f := 5) (by omega) (by decide)]
                            refine And.intro (Wdo_142 hW) (Exists.intro _ (And.intro hq4 ?_))
                            refine And.intro (NWo_0 hN) (Exists.intro _ (And.intro (NWr_0_22 hN) ?_))
                            refine And.intro (NWi_6 hN (vi rfl (by omega))) ?_
                            rw [nI_clamp (show (nv (Λ 1 4)) < 2 ^ 31 by omega)]
                            rw [pp_u2 (y := q) (f := 6) (by omega) (by decide)]
                            refine And.intro (Wdo_142 hW) (Exists.intro _ (And.intro hq4 ?_))
                            refine And.intro rfl ?_
                            refine And.intro (NWo_0 hN) ?_
                            rw [pp_20 (y := q) (by omega) (by decide)]
                            rw [ud_ne (D := (ud (ud (ud (ud (ud (ud (ud E 27 T.1 (nI 1)) 28 T.1 (nI ((nv (Λ 1 4))))) 0 15 (nI T.1 + nI 1)) 2 ((nv (Λ 1 4))) (-nI 1)) 3 ((nv (Λ 1 4))) v47r) 4 ((nv (Λ 1 4))) v53r) 5 ((nv (Λ 1 4))) v59r)) (f := 6) (g := 0) (by decide)]
                            rw [ud_ne (D := (ud (ud (ud (ud (ud (ud E 27 T.1 (nI 1)) 28 T.1 (nI ((nv (Λ 1 4))))) 0 15 (nI T.1 + nI 1)) 2 ((nv (Λ 1 4))) (-nI 1)) 3 ((nv (Λ 1 4))) v47r) 4 ((nv (Λ 1 4))) v53r)) (f := 5) (g := 0) (by decide)]
                            rw [ud_ne (D := (ud (ud (ud (ud (ud E 27 T.1 (nI 1)) 28 T.1 (nI ((nv (Λ 1 4))))) 0 15 (nI T.1 + nI 1)) 2 ((nv (Λ 1 4))) (-nI 1)) 3 ((nv (Λ 1 4))) v47r)) (f := 4) (g := 0) (by decide)]
                            rw [ud_ne (D := (ud (ud (ud (ud E 27 T.1 (nI 1)) 28 T.1 (nI ((nv (Λ 1 4))))) 0 15 (nI T.1 + nI 1)) 2 ((nv (Λ 1 4))) (-nI 1))) (f := 3) (g := 0) (by decide)]
                            rw [ud_ne (D := (ud (ud (ud E 27 T.1 (nI 1)) 28 T.1 (nI ((nv (Λ 1 4))))) 0 15 (nI T.1 + nI 1))) (f := 2) (g := 0) (by decide)]
                            refine And.intro (NWo_0 hN) ?_
                            rw [pp_u20 (y := q) (by omega) (by decide)]
                            refine And.intro ⟨rfl, rfl, Nat.le_refl _, Nat.le_refl _⟩ ?_
                            have hS : rb (bgF (nI (nv (Λ 1 4))) (nI 6) (E 0 0) B n i) (fun i => godL T Λ B n i) = .inr (tAdd T (coT B n p7r) 4 (Λ 1 4), ud (ud (ud (ud (ud Λ 3 (nv (Λ 1 4)) a42r) 16 (nv (Λ 1 4)) a47r) 4 (nv (Λ 1 4)) a53r) 5 (nv (Λ 1 4)) a59r) 6 (nv (Λ 1 4)) a67r, jr) := by
                              simp only [pf67, pg67x, ph67a, pf59, pg59x, ph59a, pf53, pg53x, ph53a, pf47, pg47x, ph47a, pf42, pg42x, ph7, eb, rb_a, rb_i, godL, tTell]
                            rw [ej] at hX67
                            refine hQ _ _ _ _ (FY_t (FY_t (FY_t (FY_t (FY_t (FY_t (FY_t hy5 hy7) hy40) hy42) hy47) hy53) hy59) hy67) ?_
                            rw [hS]
                            rw [vv67]
                            rw [vv59]
                            rw [vv53]
                            rw [vv47]
                            subst vv42
                            rw [vv7]
                            rw [← hc4q.1]
                            have hb5 := nv_b1 hc4q.1 (by omega)
                            refine ⟨hX67, NR_a hNR ht24 (by decide), ⟨⟨hL0.1, hL0.2.1, hL0.2.2.1, hL0.2.2.2.1, hL0.2.2.2.2.1, hL0.2.2.2.2.2.1, (by first | rfl | exact congrArg (fun z => z + nI 1) hL0.2.2.2.2.2.2.1), hL0.2.2.2.2.2.2.2.1, hL0.2.2.2.2.2.2.2.2.1, hL0.2.2.2.2.2.2.2.2.2.1, hL0.2.2.2.2.2.2.2.2.2.2.1, hL0.2.2.2.2.2.2.2.2.2.2.2.1, hL0.2.2.2.2.2.2.2.2.2.2.2.2.1, hL0.2.2.2.2.2.2.2.2.2.2.2.2.2.1, hL0.2.2.2.2.2.2.2.2.2.2.2.2.2.2⟩, hL1, hL2, fun v hv => ?_, fun v hv => upd_q (fun z => hL4 v hv), hL5, hL6, hL7, hL8, hL9, hL10, hL11, hL12⟩⟩
                            have hv2 : v < nv (Λ 1 4) + 1 := by change v < nv (Λ 1 4 + nI 1) at hv; omega
                            exact ⟨upd_q (fun z => (hL3 v (by omega)).1), upd_q (fun z => (hL3 v (by omega)).2.1), upd_q (fun z => (hL3 v (by omega)).2.2.1), upd_q (fun z => (hL3 v (by omega)).2.2.2)⟩
                          · -- 72 not: D67r 0 9 = nI 5
                            refine And.intro ⟨rfl, rfl, Nat.le_refl _, Nat.le_refl _⟩ ?_
                            obtain ⟨er, ee⟩ := RX_5 hX67 cz72
                            rw [ee] at hX67
                            rw [← eX67a, ← eX59, rb_a] at eX67
                            have hB : rb (rb X59ar (fun i => rb (pWhole (nI 0) (nI 23) B n i) fun a => .inr a.2)) (fun i => rb (pWord (lN 655) B n i) fun i => rb (pWhole (v59r + nI 1) (nI 24) B n i) fun a => .inr a.2) = _ := bindv (F := fun v i => rb (pWord (lN 655) B n i) fun i => rb (pWhole (v + nI 1) (nI 24) B n i) fun a => .inr a.2) hv59
                            rw [hB] at eX67
                            subst eX67
                            subst eX67a
                            subst eX59
                            subst eX59a
                            subst eX53
                            subst eX53a
                            subst eX47
                            subst eX47a
                            subst eX42
                            subst eX7
                            subst eX5
                            refine hQ _ _ _ _ (FY_t (FY_t (FY_t (FY_t (FY_t (FY_t (FY_t hy5 hy7) hy40) hy42) hy47) hy53) hy59) hy67) (lnPt_l (Eq.trans ?_ ee) hX67)
                            simp only [rb_a, rb_i, rb_d, godL, tTell]
            · -- 30 not: ¬ bi (wqX B n X7r (lN 53875888)) = 0
              refine And.intro (fun cz37 => ?_) (fun cz37 => False.elim (absurd cz37 (by decide)))
              refine And.intro ⟨by omega, Nat.le_of_ble_eq_true rfl, Nat.le_refl _, Nat.le_refl _⟩ (And.intro (Wdo_142 hW) ?_)
              refine X211 hW hN hdq hX7 (fun i e => by rw [wq_2 (bi_ne0.mp cz30) e]; decide) (by omega) (fun D42r K42r hX42 hy42 => ?_)
              · -- a way behind the call
                have hpk42 := pk_y (cs := [lN 17171758, lN 17383076, lN 10906648243, lN 53875888]) (k := nI 3) (bi_ne0.mp cz30) (by decide) (by decide)
                rw [hpk42.1] at hX42
                have hv42 := hpk42.2
                generalize eX42 : rb X7r (fun i => rb (pPick [lN 17171758, lN 17383076, lN 10906648243, lN 53875888] B n i) fun a => .inr a.2) = X42r at hX42
                show zw sc d 0 0 (mth 234).2.2.2.2.1 P234 (KJ sc d 0 0 (mth 234) P234 Q) Q 230 43 [some (.ref 142), some (.long v7r), none, some (.int (nI 3)), none, none, none, none, none] [] (pp m 142 3 D42r K42r q 29 E L) 0 0
                refine And.intro ⟨by omega, Nat.le_of_ble_eq_true rfl, Nat.le_refl _, Nat.le_refl _⟩ (And.intro (Wdo_142 hW) ?_)
                refine X218 (s0 := 45) (w := lN 17376357) hW hN hdq (by decide) (by decide) wo_45 hX42 (by omega) (fun D47r K47r v47r hX47 hy47 hv47 => ?_)
                generalize eX47a : rb X42r (fun i => pWord (lN 17376357) B n i) = X47ar at hX47 hv47
                generalize eX47 : rb X47ar (fun i => rb (pWhole (nI 0) (nI 99) B n i) fun a => .inr a.2) = X47r at hX47
                · -- a way behind the call
                  show zw sc d 0 0 (mth 234).2.2.2.2.1 P234 (KJ sc d 0 0 (mth 234) P234 Q) Q 225 48 [some (.ref 142), some (.long v7r), none, some (.int (nI 3)), none, none, none, none, none] [.int v47r] (pp m 142 3 D47r K47r q 29 E L) 0 0
                  refine And.intro ⟨by omega, Nat.le_of_ble_eq_true rfl, Nat.le_refl _, Nat.le_refl _⟩ (And.intro (Wdo_142 hW) ?_)
                  refine X218 (s0 := 46) (w := lN 643389619) hW hN hdq (by decide) (by decide) wo_46 hX47 (by omega) (fun D53r K53r v53r hX53 hy53 hv53 => ?_)
                  generalize eX53a : rb X47r (fun i => pWord (lN 643389619) B n i) = X53ar at hX53 hv53
                  generalize eX53 : rb X53ar (fun i => rb (pWhole (nI 1) (nI 9) B n i) fun a => .inr a.2) = X53r at hX53
                  · -- a way behind the call
                    show zw sc d 0 0 (mth 234).2.2.2.2.1 P234 (KJ sc d 0 0 (mth 234) P234 Q) Q 219 54 [some (.ref 142), some (.long v7r), none, some (.int (nI 3)), some (.int v47r), none, none, none, none] [.int v53r] (pp m 142 3 D53r K53r q 29 E L) 0 0
                    refine And.intro ⟨by omega, Nat.le_of_ble_eq_true rfl, Nat.le_refl _, Nat.le_refl _⟩ (And.intro (Wdo_142 hW) ?_)
                    refine X218 (s0 := 47) (w := lN 215533) hW hN hdq (by decide) (by decide) wo_47 hX53 (by omega) (fun D59r K59r v59r hX59 hy59 hv59 => ?_)
                    generalize eX59a : rb X53r (fun i => pWord (lN 215533) B n i) = X59ar at hX59 hv59
                    generalize eX59 : rb X59ar (fun i => rb (pWhole (nI 0) (nI 23) B n i) fun a => .inr a.2) = X59r at hX59
                    · -- a way behind the call
                      show zw sc d 0 0 (mth 234).2.2.2.2.1 P234 (KJ sc d 0 0 (mth 234) P234 Q) Q 213 60 [some (.ref 142), some (.long v7r), none, some (.int (nI 3)), some (.int v47r), some (.int v53r), none, none, none] [.int v59r] (pp m 142 3 D59r K59r q 29 E L) 0 0
                      refine And.intro ⟨by omega, Nat.le_of_ble_eq_true rfl, Nat.le_refl _, Nat.le_refl _⟩ (And.intro (Wdo_142 hW) ?_)
                      refine X218 (s0 := 48) (w := lN 655) hW hN hdq (by decide) (by decide) wo_48 hX59 (by omega) (fun D67r K67r v67r hX67 hy67 hv67 => ?_)
                      generalize eX67a : rb X59r (fun i => pWord (lN 655) B n i) = X67ar at hX67 hv67
                      generalize eX67 : rb X67ar (fun i => rb (pWhole (v59r + nI 1) (nI 24) B n i) fun a => .inr a.2) = X67r at hX67
                      · -- a way behind the call
                        show zw sc d 0 0 (mth 234).2.2.2.2.1 P234 (KJ sc d 0 0 (mth 234) P234 Q) Q 205 68 [some (.ref 142), some (.long v7r), none, some (.int (nI 3)), some (.int v47r), some (.int v53r), some (.int v59r), none, none] [.int v67r] (pp m 142 3 D67r K67r q 29 E L) 0 0
                        refine And.intro (Wdo_142 hW) ?_
                        rw [pp_10 (x := 142) (by decide)]
                        refine And.intro (fun cz72 => ?_) (fun cz72 => ?_)
                        · -- 72 taken: ¬ D67r 0 9 = nI 5
                          obtain ⟨jr, ej⟩ := RX_n hX67 cz72; obtain ⟨p67r, pe67, ph67⟩ := rb_r (eX67.trans ej); obtain ⟨⟨a67r, q67r⟩, pf67, pg67⟩ := rb_r ph67; have vv67 := hv67 _ _ _ pe67 pf67; have pg67x : q67r = _ := Sum.inr.inj pg67; obtain ⟨p67ar, pe67a, ph67a⟩ := rb_r (eX67a.trans pe67); obtain ⟨p59r, pe59, ph59⟩ := rb_r (eX59.trans pe67a); obtain ⟨⟨a59r, q59r⟩, pf59, pg59⟩ := rb_r ph59; have vv59 := hv59 _ _ _ pe59 pf59; have pg59x : q59r = _ := Sum.inr.inj pg59; obtain ⟨p59ar, pe59a, ph59a⟩ := rb_r (eX59a.trans pe59); obtain ⟨p53r, pe53, ph53⟩ := rb_r (eX53.trans pe59a); obtain ⟨⟨a53r, q53r⟩, pf53, pg53⟩ := rb_r ph53; have vv53 := hv53 _ _ _ pe53 pf53; have pg53x : q53r = _ := Sum.inr.inj pg53; obtain ⟨p53ar, pe53a, ph53a⟩ := rb_r (eX53a.trans pe53); obtain ⟨p47r, pe47, ph47⟩ := rb_r (eX47.trans pe53a); obtain ⟨⟨a47r, q47r⟩, pf47, pg47⟩ := rb_r ph47; have vv47 := hv47 _ _ _ pe47 pf47; have pg47x : q47r = _ := Sum.inr.inj pg47; obtain ⟨p47ar, pe47a, ph47a⟩ := rb_r (eX47a.trans pe47); obtain ⟨p42r, pe42, ph42⟩ := rb_r (eX42.trans pe47a); obtain ⟨⟨a42r, q42r⟩, pf42, pg42⟩ := rb_r ph42; have vv42 := hv42 _ _ _ pe42 pf42; have pg42x : q42r = _ := Sum.inr.inj pg42; obtain ⟨p7r, pe7, ph7⟩ := rb_r (eX7.trans pe42); have vv7 := hv7 _ _ pe7 ph7; have eb := eX5.trans pe7; obtain ⟨hb1, hb2, hb3⟩ := bgF_r eb
                          have hlt : nv (Λ 1 4) < 6 := by rcases Nat.lt_or_ge (nv (Λ 1 4)) 6 with z | z; exact z; exact absurd (congrArg nI (show nv (Λ 1 4) = 6 by have := hc4q.2; change _ ≤ 6 at this; omega)) hb1
                          rw [vv59] at pf67
                          have ht24 : T.1 < 24 := by have a2 := hc2q.2; have a4 := hc4q.2; have a8 := hc8q.2; have a0 := hc10q.2; change _ ≤ 6 at a2; change _ ≤ 6 at a4; change _ ≤ 8 at a8; change _ ≤ 4 at a0; omega
                          refine And.intro (Wdo_142 hW) (Exists.intro _ (And.intro hq4 ?_))
                          refine And.intro (NWo_0 hN) ?_
                          rw [pp_20 (y := q) (by omega) (by decide)]
                          rw [(show E 0 6 = nI (nv (Λ 1 4)) from hL0.2.2.2.2.2.2.1.trans hc4q.1)]
                          refine And.intro ⟨by omega, Nat.le_of_ble_eq_true rfl, Nat.le_refl _, Nat.le_refl _⟩ (And.intro (Wdo_142 hW) ?_)
                          refine D222 (k := T.1) hW hN hdq hq4 hNR.1 (by omega) ?_
                          unfold nmE
                          refine And.intro (Wdo_142 hW) (Exists.intro _ (And.intro hq4 ?_))
                          refine And.intro (NWo_0 hN) (Exists.intro _ (And.intro (NWr_0_18 hN) ?_))
                          refine And.intro (NWi_2 hN (vi rfl (by omega))) ?_
                          rw [nI_clamp (show (nv (Λ 1 4)) < 2 ^ 31 by omega)]
                          rw [pp_u2 (y := q) (f := 2) (by omega) (by decide)]
                          refine And.intro (Wdo_142 hW) (Exists.intro _ (And.intro hq4 ?_))
                          refine And.intro (NWo_0 hN) (Exists.intro _ (And.intro (NWr_0_19 hN) ?_))
                          refine And.intro (NWi_3 hN (vi rfl (by omega))) ?_
                          rw [nI_clamp (show (nv (Λ 1 4)) < 2 ^ 31 by omega)]
                          rw [pp_u2 (y := q) (f := 3) (by omega) (by decide)]
                          refine And.intro (Wdo_142 hW) (Exists.intro _ (And.intro hq4 ?_))
                          refine And.intro (NWo_0 hN) (Exists.intro _ (And.intro (NWr_0_20 hN) ?_))
                          refine And.intro (NWi_4 hN (vi rfl (by omega))) ?_
                          rw [nI_clamp (show (nv (Λ 1 4)) < 2 ^ 31 by omega)]
                          rw [pp_u2 (y := q) (f := 4) (by omega) (by decide)]
                          refine And.intro (Wdo_142 hW) (Exists.intro _ (And.intro hq4 ?_))
                          refine And.intro (NWo_0 hN) (Exists.intro _ (And.intro (NWr_0_21 hN) ?_))
                          refine And.intro (NWi_5 hN (vi rfl (by omega))) ?_
                          rw [nI_clamp (show (nv (Λ 1 4)) < 2 ^ 31 by omega)]
                          rw [pp_u2 (y := q) (f := 5) (by omega) (by decide)]
                          refine And.intro (Wdo_142 hW) (Exists.intro _ (And.intro hq4 ?_))
                          refine And.intro (NWo_0 hN) (Exists.intro _ (And.intro (NWr_0_22 hN) ?_))
                          refine And.intro (NWi_6 hN (vi rfl (by omega))) ?_
                          rw [nI_clamp (show (nv (Λ 1 4)) < 2 ^ 31 by omega)]
                          rw [pp_u2 (y := q) (f := 6) (by omega) (by decide)]
                          refine And.intro (Wdo_142 hW) (Exists.intro _ (And.intro hq4 ?_))
                          refine And.intro rfl ?_
                          refine And.intro (NWo_0 hN) ?_
                          rw [pp_20 (y := q) (by omega) (by decide)]
                          rw [ud_ne (D := (ud (ud (ud (ud (ud (ud (ud E 27 T.1 (nI 1)) 28 T.1 (nI ((nv (Λ 1 4))))) 0 15 (nI T.1 + nI 1)) 2 ((nv (Λ 1 4))) (nI 3)) 3 ((nv (Λ 1 4))) v47r) 4 ((nv (Λ 1 4))) v53r) 5 ((nv (Λ 1 4))) v59r)) (f := 6) (g := 0) (by decide)]
                          rw [ud_ne (D := (ud (ud (ud (ud (ud (ud E 27 T.1 (nI 1)) 28 T.1 (nI ((nv (Λ 1 4))))) 0 15 (nI T.1 + nI 1)) 2 ((nv (Λ 1 4))) (nI 3)) 3 ((nv (Λ 1 4))) v47r) 4 ((nv (Λ 1 4))) v53r)) (f := 5) (g := 0) (by decide)]
                          rw [ud_ne (D := (ud (ud (ud (ud (ud E 27 T.1 (nI 1)) 28 T.1 (nI ((nv (Λ 1 4))))) 0 15 (nI T.1 + nI 1)) 2 ((nv (Λ 1 4))) (nI 3)) 3 ((nv (Λ 1 4))) v47r)) (f := 4) (g := 0) (by decide)]
                          rw [ud_ne (D := (ud (ud (ud (ud E 27 T.1 (nI 1)) 28 T.1 (nI ((nv (Λ 1 4))))) 0 15 (nI T.1 + nI 1)) 2 ((nv (Λ 1 4))) (nI 3))) (f := 3) (g := 0) (by decide)]
                          rw [ud_ne (D := (ud (ud (ud E 27 T.1 (nI 1)) 28 T.1 (nI ((nv (Λ 1 4))))) 0 15 (nI T.1 + nI 1))) (f := 2) (g := 0) (by decide)]
                          refine And.intro (NWo_0 hN) ?_
                          rw [pp_u20 (y := q) (by omega) (by decide)]
                          refine And.intro ⟨rfl, rfl, Nat.le_refl _, Nat.le_refl _⟩ ?_
                          have hS : rb (bgF (nI (nv (Λ 1 4))) (nI 6) (E 0 0) B n i) (fun i => godL T Λ B n i) = .inr (tAdd T (coT B n p7r) 4 (Λ 1 4), ud (ud (ud (ud (ud Λ 3 (nv (Λ 1 4)) a42r) 16 (nv (Λ 1 4)) a47r) 4 (nv (Λ 1 4)) a53r) 5 (nv (Λ 1 4)) a59r) 6 (nv (Λ 1 4)) a67r, jr) := by
                            simp only [pf67, pg67x, ph67a, pf59, pg59x, ph59a, pf53, pg53x, ph53a, pf47, pg47x, ph47a, pf42, pg42x, ph7, eb, rb_a, rb_i, godL, tTell]
                          rw [ej] at hX67
                          refine hQ _ _ _ _ (FY_t (FY_t (FY_t (FY_t (FY_t (FY_t hy5 hy7) hy42) hy47) hy53) hy59) hy67) ?_
                          rw [hS]
                          rw [vv67]
                          rw [vv59]
                          rw [vv53]
                          rw [vv47]
                          subst vv42
                          rw [vv7]
                          rw [← hc4q.1]
                          have hb5 := nv_b1 hc4q.1 (by omega)
                          refine ⟨hX67, NR_a hNR ht24 (by decide), ⟨⟨hL0.1, hL0.2.1, hL0.2.2.1, hL0.2.2.2.1, hL0.2.2.2.2.1, hL0.2.2.2.2.2.1, (by first | rfl | exact congrArg (fun z => z + nI 1) hL0.2.2.2.2.2.2.1), hL0.2.2.2.2.2.2.2.1, hL0.2.2.2.2.2.2.2.2.1, hL0.2.2.2.2.2.2.2.2.2.1, hL0.2.2.2.2.2.2.2.2.2.2.1, hL0.2.2.2.2.2.2.2.2.2.2.2.1, hL0.2.2.2.2.2.2.2.2.2.2.2.2.1, hL0.2.2.2.2.2.2.2.2.2.2.2.2.2.1, hL0.2.2.2.2.2.2.2.2.2.2.2.2.2.2⟩, hL1, hL2, fun v hv => ?_, fun v hv => upd_q (fun z => hL4 v hv), hL5, hL6, hL7, hL8, hL9, hL10, hL11, hL12⟩⟩
                          have hv2 : v < nv (Λ 1 4) + 1 := by change v < nv (Λ 1 4 + nI 1) at hv; omega
                          exact ⟨upd_q (fun z => (hL3 v (by omega)).1), upd_q (fun z => (hL3 v (by omega)).2.1), upd_q (fun z => (hL3 v (by omega)).2.2.1), upd_q (fun z => (hL3 v (by omega)).2.2.2)⟩
                        · -- 72 not: D67r 0 9 = nI 5
                          refine And.intro ⟨rfl, rfl, Nat.le_refl _, Nat.le_refl _⟩ ?_
                          obtain ⟨er, ee⟩ := RX_5 hX67 cz72
                          rw [ee] at hX67
                          rw [← eX67a, ← eX59, rb_a] at eX67
                          have hB : rb (rb X59ar (fun i => rb (pWhole (nI 0) (nI 23) B n i) fun a => .inr a.2)) (fun i => rb (pWord (lN 655) B n i) fun i => rb (pWhole (v59r + nI 1) (nI 24) B n i) fun a => .inr a.2) = _ := bindv (F := fun v i => rb (pWord (lN 655) B n i) fun i => rb (pWhole (v + nI 1) (nI 24) B n i) fun a => .inr a.2) hv59
                          rw [hB] at eX67
                          subst eX67
                          subst eX67a
                          subst eX59
                          subst eX59a
                          subst eX53
                          subst eX53a
                          subst eX47
                          subst eX47a
                          subst eX42
                          subst eX7
                          subst eX5
                          refine hQ _ _ _ _ (FY_t (FY_t (FY_t (FY_t (FY_t (FY_t hy5 hy7) hy42) hy47) hy53) hy59) hy67) (lnPt_l (Eq.trans ?_ ee) hX67)
                          simp only [rb_a, rb_i, rb_d, godL, tTell]
          · -- 24 not: ¬ bi (wqX B n X7r (lN 10906648243)) = 0
            refine And.intro (fun cz37 => ?_) (fun cz37 => False.elim (absurd cz37 (by decide)))
            refine And.intro ⟨by omega, Nat.le_of_ble_eq_true rfl, Nat.le_refl _, Nat.le_refl _⟩ (And.intro (Wdo_142 hW) ?_)
            refine X211 hW hN hdq hX7 (fun i e => by rw [wq_2 (bi_ne0.mp cz24) e]; decide) (by omega) (fun D42r K42r hX42 hy42 => ?_)
            · -- a way behind the call
              have hpk42 := pk_y (cs := [lN 17171758, lN 17383076, lN 10906648243, lN 53875888]) (k := nI 2) (bi_ne0.mp cz24) (by decide) (by decide)
              rw [hpk42.1] at hX42
              have hv42 := hpk42.2
              generalize eX42 : rb X7r (fun i => rb (pPick [lN 17171758, lN 17383076, lN 10906648243, lN 53875888] B n i) fun a => .inr a.2) = X42r at hX42
              show zw sc d 0 0 (mth 234).2.2.2.2.1 P234 (KJ sc d 0 0 (mth 234) P234 Q) Q 234 43 [some (.ref 142), some (.long v7r), none, some (.int (nI 2)), none, none, none, none, none] [] (pp m 142 3 D42r K42r q 29 E L) 0 0
              refine And.intro ⟨by omega, Nat.le_of_ble_eq_true rfl, Nat.le_refl _, Nat.le_refl _⟩ (And.intro (Wdo_142 hW) ?_)
              refine X218 (s0 := 45) (w := lN 17376357) hW hN hdq (by decide) (by decide) wo_45 hX42 (by omega) (fun D47r K47r v47r hX47 hy47 hv47 => ?_)
              generalize eX47a : rb X42r (fun i => pWord (lN 17376357) B n i) = X47ar at hX47 hv47
              generalize eX47 : rb X47ar (fun i => rb (pWhole (nI 0) (nI 99) B n i) fun a => .inr a.2) = X47r at hX47
              · -- a way behind the call
                show zw sc d 0 0 (mth 234).2.2.2.2.1 P234 (KJ sc d 0 0 (mth 234) P234 Q) Q 229 48 [some (.ref 142), some (.long v7r), none, some (.int (nI 2)), none, none, none, none, none] [.int v47r] (pp m 142 3 D47r K47r q 29 E L) 0 0
                refine And.intro ⟨by omega, Nat.le_of_ble_eq_true rfl, Nat.le_refl _, Nat.le_refl _⟩ (And.intro (Wdo_142 hW) ?_)
                refine X218 (s0 := 46) (w := lN 643389619) hW hN hdq (by decide) (by decide) wo_46 hX47 (by omega) (fun D53r K53r v53r hX53 hy53 hv53 => ?_)
                generalize eX53a : rb X47r (fun i => pWord (lN 643389619) B n i) = X53ar at hX53 hv53
                generalize eX53 : rb X53ar (fun i => rb (pWhole (nI 1) (nI 9) B n i) fun a => .inr a.2) = X53r at hX53
                · -- a way behind the call
                  show zw sc d 0 0 (mth 234).2.2.2.2.1 P234 (KJ sc d 0 0 (mth 234) P234 Q) Q 223 54 [some (.ref 142), some (.long v7r), none, some (.int (nI 2)), some (.int v47r), none, none, none, none] [.int v53r] (pp m 142 3 D53r K53r q 29 E L) 0 0
                  refine And.intro ⟨by omega, Nat.le_of_ble_eq_true rfl, Nat.le_refl _, Nat.le_refl _⟩ (And.intro (Wdo_142 hW) ?_)
                  refine X218 (s0 := 47) (w := lN 215533) hW hN hdq (by decide) (by decide) wo_47 hX53 (by omega) (fun D59r K59r v59r hX59 hy59 hv59 => ?_)
                  generalize eX59a : rb X53r (fun i => pWord (lN 215533) B n i) = X59ar at hX59 hv59
                  generalize eX59 : rb X59ar (fun i => rb (pWhole (nI 0) (nI 23) B n i) fun a => .inr a.2) = X59r at hX59
                  · -- a way behind the call
                    show zw sc d 0 0 (mth 234).2.2.2.2.1 P234 (KJ sc d 0 0 (mth 234) P234 Q) Q 217 60 [some (.ref 142), some (.long v7r), none, some (.int (nI 2)), some (.int v47r), some (.int v53r), none, none, none] [.int v59r] (pp m 142 3 D59r K59r q 29 E L) 0 0
                    refine And.intro ⟨by omega, Nat.le_of_ble_eq_true rfl, Nat.le_refl _, Nat.le_refl _⟩ (And.intro (Wdo_142 hW) ?_)
                    refine X218 (s0 := 48) (w := lN 655) hW hN hdq (by decide) (by decide) wo_48 hX59 (by omega) (fun D67r K67r v67r hX67 hy67 hv67 => ?_)
                    generalize eX67a : rb X59r (fun i => pWord (lN 655) B n i) = X67ar at hX67 hv67
                    generalize eX67 : rb X67ar (fun i => rb (pWhole (v59r + nI 1) (nI 24) B n i) fun a => .inr a.2) = X67r at hX67
                    · -- a way behind the call
                      show zw sc d 0 0 (mth 234).2.2.2.2.1 P234 (KJ sc d 0 0 (mth 234) P234 Q) Q 209 68 [some (.ref 142), some (.long v7r), none, some (.int (nI 2)), some (.int v47r), some (.int v53r), some (.int v59r), none, none] [.int v67r] (pp m 142 3 D67r K67r q 29 E L) 0 0
                      refine And.intro (Wdo_142 hW) ?_
                      rw [pp_10 (x := 142) (by decide)]
                      refine And.intro (fun cz72 => ?_) (fun cz72 => ?_)
                      · -- 72 taken: ¬ D67r 0 9 = nI 5
                        obtain ⟨jr, ej⟩ := RX_n hX67 cz72; obtain ⟨p67r, pe67, ph67⟩ := rb_r (eX67.trans ej); obtain ⟨⟨a67r, q67r⟩, pf67, pg67⟩ := rb_r ph67; have vv67 := hv67 _ _ _ pe67 pf67; have pg67x : q67r = _ := Sum.inr.inj pg67; obtain ⟨p67ar, pe67a, ph67a⟩ := rb_r (eX67a.trans pe67); obtain ⟨p59r, pe59, ph59⟩ := rb_r (eX59.trans pe67a); obtain ⟨⟨a59r, q59r⟩, pf59, pg59⟩ := rb_r ph59; have vv59 := hv59 _ _ _ pe59 pf59; have pg59x : q59r = _ := Sum.inr.inj pg59; obtain ⟨p59ar, pe59a, ph59a⟩ := rb_r (eX59a.trans pe59); obtain ⟨p53r, pe53, ph53⟩ := rb_r (eX53.trans pe59a); obtain ⟨⟨a53r, q53r⟩, pf53, pg53⟩ := rb_r ph53; have vv53 := hv53 _ _ _ pe53 pf53; have pg53x : q53r = _ := Sum.inr.inj pg53; obtain ⟨p53ar, pe53a, ph53a⟩ := rb_r (eX53a.trans pe53); obtain ⟨p47r, pe47, ph47⟩ := rb_r (eX47.trans pe53a); obtain ⟨⟨a47r, q47r⟩, pf47, pg47⟩ := rb_r ph47; have vv47 := hv47 _ _ _ pe47 pf47; have pg47x : q47r = _ := Sum.inr.inj pg47; obtain ⟨p47ar, pe47a, ph47a⟩ := rb_r (eX47a.trans pe47); obtain ⟨p42r, pe42, ph42⟩ := rb_r (eX42.trans pe47a); obtain ⟨⟨a42r, q42r⟩, pf42, pg42⟩ := rb_r ph42; have vv42 := hv42 _ _ _ pe42 pf42; have pg42x : q42r = _ := Sum.inr.inj pg42; obtain ⟨p7r, pe7, ph7⟩ := rb_r (eX7.trans pe42); have vv7 := hv7 _ _ pe7 ph7; have eb := eX5.trans pe7; obtain ⟨hb1, hb2, hb3⟩ := bgF_r eb
                        have hlt : nv (Λ 1 4) < 6 := by rcases Nat.lt_or_ge (nv (Λ 1 4)) 6 with z | z; exact z; exact absurd (congrArg nI (show nv (Λ 1 4) = 6 by have := hc4q.2; change _ ≤ 6 at this; omega)) hb1
                        rw [vv59] at pf67
                        have ht24 : T.1 < 24 := by have a2 := hc2q.2; have a4 := hc4q.2; have a8 := hc8q.2; have a0 := hc10q.2; change _ ≤ 6 at a2; change _ ≤ 6 at a4; change _ ≤ 8 at a8; change _ ≤ 4 at a0; omega
                        refine And.intro (Wdo_142 hW) (Exists.intro _ (And.intro hq4 ?_))
                        refine And.intro (NWo_0 hN) ?_
                        rw [pp_20 (y := q) (by omega) (by decide)]
                        rw [(show E 0 6 = nI (nv (Λ 1 4)) from hL0.2.2.2.2.2.2.1.trans hc4q.1)]
                        refine And.intro ⟨by omega, Nat.le_of_ble_eq_true rfl, Nat.le_refl _, Nat.le_refl _⟩ (And.intro (Wdo_142 hW) ?_)
                        refine D222 (k := T.1) hW hN hdq hq4 hNR.1 (by omega) ?_
                        unfold nmE
                        refine And.intro (Wdo_142 hW) (Exists.intro _ (And.intro hq4 ?_))
                        refine And.intro (NWo_0 hN) (Exists.intro _ (And.intro (NWr_0_18 hN) ?_))
                        refine And.intro (NWi_2 hN (vi rfl (by omega))) ?_
                        rw [nI_clamp (show (nv (Λ 1 4)) < 2 ^ 31 by omega)]
                        rw [pp_u2 (y := q) (f := 2) (by omega) (by decide)]
                        refine And.intro (Wdo_142 hW) (Exists.intro _ (And.intro hq4 ?_))
                        refine And.intro (NWo_0 hN) (Exists.intro _ (And.intro (NWr_0_19 hN) ?_))
                        refine And.intro (NWi_3 hN (vi rfl (by omega))) ?_
                        rw [nI_clamp (show (nv (Λ 1 4)) < 2 ^ 31 by omega)]
                        rw [pp_u2 (y := q) (f := 3) (by omega) (by decide)]
                        refine And.intro (Wdo_142 hW) (Exists.intro _ (And.intro hq4 ?_))
                        refine And.intro (NWo_0 hN) (Exists.intro _ (And.intro (NWr_0_20 hN) ?_))
                        refine And.intro (NWi_4 hN (vi rfl (by omega))) ?_
                        rw [nI_clamp (show (nv (Λ 1 4)) < 2 ^ 31 by omega)]
                        rw [pp_u2 (y := q) (f := 4) (by omega) (by decide)]
                        refine And.intro (Wdo_142 hW) (Exists.intro _ (And.intro hq4 ?_))
                        refine And.intro (NWo_0 hN) (Exists.intro _ (And.intro (NWr_0_21 hN) ?_))
                        refine And.intro (NWi_5 hN (vi rfl (by omega))) ?_
                        rw [nI_clamp (show (nv (Λ 1 4)) < 2 ^ 31 by omega)]
                        rw [pp_u2 (y := q) (f := 5) (by omega) (by decide)]
                        refine And.intro (Wdo_142 hW) (Exists.intro _ (And.intro hq4 ?_))
                        refine And.intro (NWo_0 hN) (Exists.intro _ (And.intro (NWr_0_22 hN) ?_))
                        refine And.intro (NWi_6 hN (vi rfl (by omega))) ?_
                        rw [nI_clamp (show (nv (Λ 1 4)) < 2 ^ 31 by omega)]
                        rw [pp_u2 (y := q) (f := 6) (by omega) (by decide)]
                        refine And.intro (Wdo_142 hW) (Exists.intro _ (And.intro hq4 ?_))
                        refine And.intro rfl ?_
                        refine And.intro (NWo_0 hN) ?_
                        rw [pp_20 (y := q) (by omega) (by decide)]
                        rw [ud_ne (D := (ud (ud (ud (ud (ud (ud (ud E 27 T.1 (nI 1)) 28 T.1 (nI ((nv (Λ 1 4))))) 0 15 (nI T.1 + nI 1)) 2 ((nv (Λ 1 4))) (nI 2)) 3 ((nv (Λ 1 4))) v47r) 4 ((nv (Λ 1 4))) v53r) 5 ((nv (Λ 1 4))) v59r)) (f := 6) (g := 0) (by decide)]
                        rw [ud_ne (D := (ud (ud (ud (ud (ud (ud E 27 T.1 (nI 1)) 28 T.1 (nI ((nv (Λ 1 4))))) 0 15 (nI T.1 + nI 1)) 2 ((nv (Λ 1 4))) (nI 2)) 3 ((nv (Λ 1 4))) v47r) 4 ((nv (Λ 1 4))) v53r)) (f := 5) (g := 0) (by decide)]
                        rw [ud_ne (D := (ud (ud (ud (ud (ud E 27 T.1 (nI 1)) 28 T.1 (nI ((nv (Λ 1 4))))) 0 15 (nI T.1 + nI 1)) 2 ((nv (Λ 1 4))) (nI 2)) 3 ((nv (Λ 1 4))) v47r)) (f := 4) (g := 0) (by decide)]
                        rw [ud_ne (D := (ud (ud (ud (ud E 27 T.1 (nI 1)) 28 T.1 (nI ((nv (Λ 1 4))))) 0 15 (nI T.1 + nI 1)) 2 ((nv (Λ 1 4))) (nI 2))) (f := 3) (g := 0) (by decide)]
                        rw [ud_ne (D := (ud (ud (ud E 27 T.1 (nI 1)) 28 T.1 (nI ((nv (Λ 1 4))))) 0 15 (nI T.1 + nI 1))) (f := 2) (g := 0) (by decide)]
                        refine And.intro (NWo_0 hN) ?_
                        rw [pp_u20 (y := q) (by omega) (by decide)]
                        refine And.intro ⟨rfl, rfl, Nat.le_refl _, Nat.le_refl _⟩ ?_
                        have hS : rb (bgF (nI (nv (Λ 1 4))) (nI 6) (E 0 0) B n i) (fun i => godL T Λ B n i) = .inr (tAdd T (coT B n p7r) 4 (Λ 1 4), ud (ud (ud (ud (ud Λ 3 (nv (Λ 1 4)) a42r) 16 (nv (Λ 1 4)) a47r) 4 (nv (Λ 1 4)) a53r) 5 (nv (Λ 1 4)) a59r) 6 (nv (Λ 1 4)) a67r, jr) := by
                          simp only [pf67, pg67x, ph67a, pf59, pg59x, ph59a, pf53, pg53x, ph53a, pf47, pg47x, ph47a, pf42, pg42x, ph7, eb, rb_a, rb_i, godL, tTell]
                        rw [ej] at hX67
                        refine hQ _ _ _ _ (FY_t (FY_t (FY_t (FY_t (FY_t (FY_t hy5 hy7) hy42) hy47) hy53) hy59) hy67) ?_
                        rw [hS]
                        rw [vv67]
                        rw [vv59]
                        rw [vv53]
                        rw [vv47]
                        subst vv42
                        rw [vv7]
                        rw [← hc4q.1]
                        have hb5 := nv_b1 hc4q.1 (by omega)
                        refine ⟨hX67, NR_a hNR ht24 (by decide), ⟨⟨hL0.1, hL0.2.1, hL0.2.2.1, hL0.2.2.2.1, hL0.2.2.2.2.1, hL0.2.2.2.2.2.1, (by first | rfl | exact congrArg (fun z => z + nI 1) hL0.2.2.2.2.2.2.1), hL0.2.2.2.2.2.2.2.1, hL0.2.2.2.2.2.2.2.2.1, hL0.2.2.2.2.2.2.2.2.2.1, hL0.2.2.2.2.2.2.2.2.2.2.1, hL0.2.2.2.2.2.2.2.2.2.2.2.1, hL0.2.2.2.2.2.2.2.2.2.2.2.2.1, hL0.2.2.2.2.2.2.2.2.2.2.2.2.2.1, hL0.2.2.2.2.2.2.2.2.2.2.2.2.2.2⟩, hL1, hL2, fun v hv => ?_, fun v hv => upd_q (fun z => hL4 v hv), hL5, hL6, hL7, hL8, hL9, hL10, hL11, hL12⟩⟩
                        have hv2 : v < nv (Λ 1 4) + 1 := by change v < nv (Λ 1 4 + nI 1) at hv; omega
                        exact ⟨upd_q (fun z => (hL3 v (by omega)).1), upd_q (fun z => (hL3 v (by omega)).2.1), upd_q (fun z => (hL3 v (by omega)).2.2.1), upd_q (fun z => (hL3 v (by omega)).2.2.2)⟩
                      · -- 72 not: D67r 0 9 = nI 5
                        refine And.intro ⟨rfl, rfl, Nat.le_refl _, Nat.le_refl _⟩ ?_
                        obtain ⟨er, ee⟩ := RX_5 hX67 cz72
                        rw [ee] at hX67
                        rw [← eX67a, ← eX59, rb_a] at eX67
                        have hB : rb (rb X59ar (fun i => rb (pWhole (nI 0) (nI 23) B n i) fun a => .inr a.2)) (fun i => rb (pWord (lN 655) B n i) fun i => rb (pWhole (v59r + nI 1) (nI 24) B n i) fun a => .inr a.2) = _ := bindv (F := fun v i => rb (pWord (lN 655) B n i) fun i => rb (pWhole (v + nI 1) (nI 24) B n i) fun a => .inr a.2) hv59
                        rw [hB] at eX67
                        subst eX67
                        subst eX67a
                        subst eX59
                        subst eX59a
                        subst eX53
                        subst eX53a
                        subst eX47
                        subst eX47a
                        subst eX42
                        subst eX7
                        subst eX5
                        refine hQ _ _ _ _ (FY_t (FY_t (FY_t (FY_t (FY_t (FY_t hy5 hy7) hy42) hy47) hy53) hy59) hy67) (lnPt_l (Eq.trans ?_ ee) hX67)
                        simp only [rb_a, rb_i, rb_d, godL, tTell]
        · -- 18 not: ¬ bi (wqX B n X7r (lN 17383076)) = 0
          refine And.intro (fun cz37 => ?_) (fun cz37 => False.elim (absurd cz37 (by decide)))
          refine And.intro ⟨by omega, Nat.le_of_ble_eq_true rfl, Nat.le_refl _, Nat.le_refl _⟩ (And.intro (Wdo_142 hW) ?_)
          refine X211 hW hN hdq hX7 (fun i e => by rw [wq_2 (bi_ne0.mp cz18) e]; decide) (by omega) (fun D42r K42r hX42 hy42 => ?_)
          · -- a way behind the call
            have hpk42 := pk_y (cs := [lN 17171758, lN 17383076, lN 10906648243, lN 53875888]) (k := nI 1) (bi_ne0.mp cz18) (by decide) (by decide)
            rw [hpk42.1] at hX42
            have hv42 := hpk42.2
            generalize eX42 : rb X7r (fun i => rb (pPick [lN 17171758, lN 17383076, lN 10906648243, lN 53875888] B n i) fun a => .inr a.2) = X42r at hX42
            show zw sc d 0 0 (mth 234).2.2.2.2.1 P234 (KJ sc d 0 0 (mth 234) P234 Q) Q 238 43 [some (.ref 142), some (.long v7r), none, some (.int (nI 1)), none, none, none, none, none] [] (pp m 142 3 D42r K42r q 29 E L) 0 0
            refine And.intro ⟨by omega, Nat.le_of_ble_eq_true rfl, Nat.le_refl _, Nat.le_refl _⟩ (And.intro (Wdo_142 hW) ?_)
            refine X218 (s0 := 45) (w := lN 17376357) hW hN hdq (by decide) (by decide) wo_45 hX42 (by omega) (fun D47r K47r v47r hX47 hy47 hv47 => ?_)
            generalize eX47a : rb X42r (fun i => pWord (lN 17376357) B n i) = X47ar at hX47 hv47
            generalize eX47 : rb X47ar (fun i => rb (pWhole (nI 0) (nI 99) B n i) fun a => .inr a.2) = X47r at hX47
            · -- a way behind the call
              show zw sc d 0 0 (mth 234).2.2.2.2.1 P234 (KJ sc d 0 0 (mth 234) P234 Q) Q 233 48 [some (.ref 142), some (.long v7r), none, some (.int (nI 1)), none, none, none, none, none] [.int v47r] (pp m 142 3 D47r K47r q 29 E L) 0 0
              refine And.intro ⟨by omega, Nat.le_of_ble_eq_true rfl, Nat.le_refl _, Nat.le_refl _⟩ (And.intro (Wdo_142 hW) ?_)
              refine X218 (s0 := 46) (w := lN 643389619) hW hN hdq (by decide) (by decide) wo_46 hX47 (by omega) (fun D53r K53r v53r hX53 hy53 hv53 => ?_)
              generalize eX53a : rb X47r (fun i => pWord (lN 643389619) B n i) = X53ar at hX53 hv53
              generalize eX53 : rb X53ar (fun i => rb (pWhole (nI 1) (nI 9) B n i) fun a => .inr a.2) = X53r at hX53
              · -- a way behind the call
                show zw sc d 0 0 (mth 234).2.2.2.2.1 P234 (KJ sc d 0 0 (mth 234) P234 Q) Q 227 54 [some (.ref 142), some (.long v7r), none, some (.int (nI 1)), some (.int v47r), none, none, none, none] [.int v53r] (pp m 142 3 D53r K53r q 29 E L) 0 0
                refine And.intro ⟨by omega, Nat.le_of_ble_eq_true rfl, Nat.le_refl _, Nat.le_refl _⟩ (And.intro (Wdo_142 hW) ?_)
                refine X218 (s0 := 47) (w := lN 215533) hW hN hdq (by decide) (by decide) wo_47 hX53 (by omega) (fun D59r K59r v59r hX59 hy59 hv59 => ?_)
                generalize eX59a : rb X53r (fun i => pWord (lN 215533) B n i) = X59ar at hX59 hv59
                generalize eX59 : rb X59ar (fun i => rb (pWhole (nI 0) (nI 23) B n i) fun a => .inr a.2) = X59r at hX59
                · -- a way behind the call
                  show zw sc d 0 0 (mth 234).2.2.2.2.1 P234 (KJ sc d 0 0 (mth 234) P234 Q) Q 221 60 [some (.ref 142), some (.long v7r), none, some (.int (nI 1)), some (.int v47r), some (.int v53r), none, none, none] [.int v59r] (pp m 142 3 D59r K59r q 29 E L) 0 0
                  refine And.intro ⟨by omega, Nat.le_of_ble_eq_true rfl, Nat.le_refl _, Nat.le_refl _⟩ (And.intro (Wdo_142 hW) ?_)
                  refine X218 (s0 := 48) (w := lN 655) hW hN hdq (by decide) (by decide) wo_48 hX59 (by omega) (fun D67r K67r v67r hX67 hy67 hv67 => ?_)
                  generalize eX67a : rb X59r (fun i => pWord (lN 655) B n i) = X67ar at hX67 hv67
                  generalize eX67 : rb X67ar (fun i => rb (pWhole (v59r + nI 1) (nI 24) B n i) fun a => .inr a.2) = X67r at hX67
                  · -- a way behind the call
                    show zw sc d 0 0 (mth 234).2.2.2.2.1 P234 (KJ sc d 0 0 (mth 234) P234 Q) Q 213 68 [some (.ref 142), some (.long v7r), none, some (.int (nI 1)), some (.int v47r), some (.int v53r), some (.int v59r), none, none] [.int v67r] (pp m 142 3 D67r K67r q 29 E L) 0 0
                    refine And.intro (Wdo_142 hW) ?_
                    rw [pp_10 (x := 142) (by decide)]
                    refine And.intro (fun cz72 => ?_) (fun cz72 => ?_)
                    · -- 72 taken: ¬ D67r 0 9 = nI 5
                      obtain ⟨jr, ej⟩ := RX_n hX67 cz72; obtain ⟨p67r, pe67, ph67⟩ := rb_r (eX67.trans ej); obtain ⟨⟨a67r, q67r⟩, pf67, pg67⟩ := rb_r ph67; have vv67 := hv67 _ _ _ pe67 pf67; have pg67x : q67r = _ := Sum.inr.inj pg67; obtain ⟨p67ar, pe67a, ph67a⟩ := rb_r (eX67a.trans pe67); obtain ⟨p59r, pe59, ph59⟩ := rb_r (eX59.trans pe67a); obtain ⟨⟨a59r, q59r⟩, pf59, pg59⟩ := rb_r ph59; have vv59 := hv59 _ _ _ pe59 pf59; have pg59x : q59r = _ := Sum.inr.inj pg59; obtain ⟨p59ar, pe59a, ph59a⟩ := rb_r (eX59a.trans pe59); obtain ⟨p53r, pe53, ph53⟩ := rb_r (eX53.trans pe59a); obtain ⟨⟨a53r, q53r⟩, pf53, pg53⟩ := rb_r ph53; have vv53 := hv53 _ _ _ pe53 pf53; have pg53x : q53r = _ := Sum.inr.inj pg53; obtain ⟨p53ar, pe53a, ph53a⟩ := rb_r (eX53a.trans pe53); obtain ⟨p47r, pe47, ph47⟩ := rb_r (eX47.trans pe53a); obtain ⟨⟨a47r, q47r⟩, pf47, pg47⟩ := rb_r ph47; have vv47 := hv47 _ _ _ pe47 pf47; have pg47x : q47r = _ := Sum.inr.inj pg47; obtain ⟨p47ar, pe47a, ph47a⟩ := rb_r (eX47a.trans pe47); obtain ⟨p42r, pe42, ph42⟩ := rb_r (eX42.trans pe47a); obtain ⟨⟨a42r, q42r⟩, pf42, pg42⟩ := rb_r ph42; have vv42 := hv42 _ _ _ pe42 pf42; have pg42x : q42r = _ := Sum.inr.inj pg42; obtain ⟨p7r, pe7, ph7⟩ := rb_r (eX7.trans pe42); have vv7 := hv7 _ _ pe7 ph7; have eb := eX5.trans pe7; obtain ⟨hb1, hb2, hb3⟩ := bgF_r eb
                      have hlt : nv (Λ 1 4) < 6 := by rcases Nat.lt_or_ge (nv (Λ 1 4)) 6 with z | z; exact z; exact absurd (congrArg nI (show nv (Λ 1 4) = 6 by have := hc4q.2; change _ ≤ 6 at this; omega)) hb1
                      rw [vv59] at pf67
                      have ht24 : T.1 < 24 := by have a2 := hc2q.2; have a4 := hc4q.2; have a8 := hc8q.2; have a0 := hc10q.2; change _ ≤ 6 at a2; change _ ≤ 6 at a4; change _ ≤ 8 at a8; change _ ≤ 4 at a0; omega
                      refine And.intro (Wdo_142 hW) (Exists.intro _ (And.intro hq4 ?_))
                      refine And.intro (NWo_0 hN) ?_
                      rw [pp_20 (y := q) (by omega) (by decide)]
                      rw [(show E 0 6 = nI (nv (Λ 1 4)) from hL0.2.2.2.2.2.2.1.trans hc4q.1)]
                      refine And.intro ⟨by omega, Nat.le_of_ble_eq_true rfl, Nat.le_refl _, Nat.le_refl _⟩ (And.intro (Wdo_142 hW) ?_)
                      refine D222 (k := T.1) hW hN hdq hq4 hNR.1 (by omega) ?_
                      unfold nmE
                      refine And.intro (Wdo_142 hW) (Exists.intro _ (And.intro hq4 ?_))
                      refine And.intro (NWo_0 hN) (Exists.intro _ (And.intro (NWr_0_18 hN) ?_))
                      refine And.intro (NWi_2 hN (vi rfl (by omega))) ?_
                      rw [nI_clamp (show (nv (Λ 1 4)) < 2 ^ 31 by omega)]
                      rw [pp_u2 (y := q) (f := 2) (by omega) (by decide)]
                      refine And.intro (Wdo_142 hW) (Exists.intro _ (And.intro hq4 ?_))
                      refine And.intro (NWo_0 hN) (Exists.intro _ (And.intro (NWr_0_19 hN) ?_))
                      refine And.intro (NWi_3 hN (vi rfl (by omega))) ?_
                      rw [nI_clamp (show (nv (Λ 1 4)) < 2 ^ 31 by omega)]
                      rw [pp_u2 (y := q) (f := 3) (by omega) (by decide)]
                      refine And.intro (Wdo_142 hW) (Exists.intro _ (And.intro hq4 ?_))
                      refine And.intro (NWo_0 hN) (Exists.intro _ (And.intro (NWr_0_20 hN) ?_))
                      refine And.intro (NWi_4 hN (vi rfl (by omega))) ?_
                      rw [nI_clamp (show (nv (Λ 1 4)) < 2 ^ 31 by omega)]
                      rw [pp_u2 (y := q) (f := 4) (by omega) (by decide)]
                      refine And.intro (Wdo_142 hW) (Exists.intro _ (And.intro hq4 ?_))
                      refine And.intro (NWo_0 hN) (Exists.intro _ (And.intro (NWr_0_21 hN) ?_))
                      refine And.intro (NWi_5 hN (vi rfl (by omega))) ?_
                      rw [nI_clamp (show (nv (Λ 1 4)) < 2 ^ 31 by omega)]
                      rw [pp_u2 (y := q) (f := 5) (by omega) (by decide)]
                      refine And.intro (Wdo_142 hW) (Exists.intro _ (And.intro hq4 ?_))
                      refine And.intro (NWo_0 hN) (Exists.intro _ (And.intro (NWr_0_22 hN) ?_))
                      refine And.intro (NWi_6 hN (vi rfl (by omega))) ?_
                      rw [nI_clamp (show (nv (Λ 1 4)) < 2 ^ 31 by omega)]
                      rw [pp_u2 (y := q) (f := 6) (by omega) (by decide)]
                      refine And.intro (Wdo_142 hW) (Exists.intro _ (And.intro hq4 ?_))
                      refine And.intro rfl ?_
                      refine And.intro (NWo_0 hN) ?_
                      rw [pp_20 (y := q) (by omega) (by decide)]
                      rw [ud_ne (D := (ud (ud (ud (ud (ud (ud (ud E 27 T.1 (nI 1)) 28 T.1 (nI ((nv (Λ 1 4))))) 0 15 (nI T.1 + nI 1)) 2 ((nv (Λ 1 4))) (nI 1)) 3 ((nv (Λ 1 4))) v47r) 4 ((nv (Λ 1 4))) v53r) 5 ((nv (Λ 1 4))) v59r)) (f := 6) (g := 0) (by decide)]
                      rw [ud_ne (D := (ud (ud (ud (ud (ud (ud E 27 T.1 (nI 1)) 28 T.1 (nI ((nv (Λ 1 4))))) 0 15 (nI T.1 + nI 1)) 2 ((nv (Λ 1 4))) (nI 1)) 3 ((nv (Λ 1 4))) v47r) 4 ((nv (Λ 1 4))) v53r)) (f := 5) (g := 0) (by decide)]
                      rw [ud_ne (D := (ud (ud (ud (ud (ud E 27 T.1 (nI 1)) 28 T.1 (nI ((nv (Λ 1 4))))) 0 15 (nI T.1 + nI 1)) 2 ((nv (Λ 1 4))) (nI 1)) 3 ((nv (Λ 1 4))) v47r)) (f := 4) (g := 0) (by decide)]
                      rw [ud_ne (D := (ud (ud (ud (ud E 27 T.1 (nI 1)) 28 T.1 (nI ((nv (Λ 1 4))))) 0 15 (nI T.1 + nI 1)) 2 ((nv (Λ 1 4))) (nI 1))) (f := 3) (g := 0) (by decide)]
                      rw [ud_ne (D := (ud (ud (ud E 27 T.1 (nI 1)) 28 T.1 (nI ((nv (Λ 1 4))))) 0 15 (nI T.1 + nI 1))) (f := 2) (g := 0) (by decide)]
                      refine And.intro (NWo_0 hN) ?_
                      rw [pp_u20 (y := q) (by omega) (by decide)]
                      refine And.intro ⟨rfl, rfl, Nat.le_refl _, Nat.le_refl _⟩ ?_
                      have hS : rb (bgF (nI (nv (Λ 1 4))) (nI 6) (E 0 0) B n i) (fun i => godL T Λ B n i) = .inr (tAdd T (coT B n p7r) 4 (Λ 1 4), ud (ud (ud (ud (ud Λ 3 (nv (Λ 1 4)) a42r) 16 (nv (Λ 1 4)) a47r) 4 (nv (Λ 1 4)) a53r) 5 (nv (Λ 1 4)) a59r) 6 (nv (Λ 1 4)) a67r, jr) := by
                        simp only [pf67, pg67x, ph67a, pf59, pg59x, ph59a, pf53, pg53x, ph53a, pf47, pg47x, ph47a, pf42, pg42x, ph7, eb, rb_a, rb_i, godL, tTell]
                      rw [ej] at hX67
                      refine hQ _ _ _ _ (FY_t (FY_t (FY_t (FY_t (FY_t (FY_t hy5 hy7) hy42) hy47) hy53) hy59) hy67) ?_
                      rw [hS]
                      rw [vv67]
                      rw [vv59]
                      rw [vv53]
                      rw [vv47]
                      subst vv42
                      rw [vv7]
                      rw [← hc4q.1]
                      have hb5 := nv_b1 hc4q.1 (by omega)
                      refine ⟨hX67, NR_a hNR ht24 (by decide), ⟨⟨hL0.1, hL0.2.1, hL0.2.2.1, hL0.2.2.2.1, hL0.2.2.2.2.1, hL0.2.2.2.2.2.1, (by first | rfl | exact congrArg (fun z => z + nI 1) hL0.2.2.2.2.2.2.1), hL0.2.2.2.2.2.2.2.1, hL0.2.2.2.2.2.2.2.2.1, hL0.2.2.2.2.2.2.2.2.2.1, hL0.2.2.2.2.2.2.2.2.2.2.1, hL0.2.2.2.2.2.2.2.2.2.2.2.1, hL0.2.2.2.2.2.2.2.2.2.2.2.2.1, hL0.2.2.2.2.2.2.2.2.2.2.2.2.2.1, hL0.2.2.2.2.2.2.2.2.2.2.2.2.2.2⟩, hL1, hL2, fun v hv => ?_, fun v hv => upd_q (fun z => hL4 v hv), hL5, hL6, hL7, hL8, hL9, hL10, hL11, hL12⟩⟩
                      have hv2 : v < nv (Λ 1 4) + 1 := by change v < nv (Λ 1 4 + nI 1) at hv; omega
                      exact ⟨upd_q (fun z => (hL3 v (by omega)).1), upd_q (fun z => (hL3 v (by omega)).2.1), upd_q (fun z => (hL3 v (by omega)).2.2.1), upd_q (fun z => (hL3 v (by omega)).2.2.2)⟩
                    · -- 72 not: D67r 0 9 = nI 5
                      refine And.intro ⟨rfl, rfl, Nat.le_refl _, Nat.le_refl _⟩ ?_
                      obtain ⟨er, ee⟩ := RX_5 hX67 cz72
                      rw [ee] at hX67
                      rw [← eX67a, ← eX59, rb_a] at eX67
                      have hB : rb (rb X59ar (fun i => rb (pWhole (nI 0) (nI 23) B n i) fun a => .inr a.2)) (fun i => rb (pWord (lN 655) B n i) fun i => rb (pWhole (v59r + nI 1) (nI 24) B n i) fun a => .inr a.2) = _ := bindv (F := fun v i => rb (pWord (lN 655) B n i) fun i => rb (pWhole (v + nI 1) (nI 24) B n i) fun a => .inr a.2) hv59
                      rw [hB] at eX67
                      subst eX67
                      subst eX67a
                      subst eX59
                      subst eX59a
                      subst eX53
                      subst eX53a
                      subst eX47
                      subst eX47a
                      subst eX42
                      subst eX7
                      subst eX5
                      refine hQ _ _ _ _ (FY_t (FY_t (FY_t (FY_t (FY_t (FY_t hy5 hy7) hy42) hy47) hy53) hy59) hy67) (lnPt_l (Eq.trans ?_ ee) hX67)
                      simp only [rb_a, rb_i, rb_d, godL, tTell]
      · -- 12 not: ¬ bi (wqX B n X7r (lN 17171758)) = 0
        refine And.intro (fun cz37 => ?_) (fun cz37 => False.elim (absurd cz37 (by decide)))
        refine And.intro ⟨by omega, Nat.le_of_ble_eq_true rfl, Nat.le_refl _, Nat.le_refl _⟩ (And.intro (Wdo_142 hW) ?_)
        refine X211 hW hN hdq hX7 (fun i e => by rw [wq_2 (bi_ne0.mp cz12) e]; decide) (by omega) (fun D42r K42r hX42 hy42 => ?_)
        · -- a way behind the call
          have hpk42 := pk_y (cs := [lN 17171758, lN 17383076, lN 10906648243, lN 53875888]) (k := nI 0) (bi_ne0.mp cz12) (by decide) (by decide)
          rw [hpk42.1] at hX42
          have hv42 := hpk42.2
          generalize eX42 : rb X7r (fun i => rb (pPick [lN 17171758, lN 17383076, lN 10906648243, lN 53875888] B n i) fun a => .inr a.2) = X42r at hX42
          show zw sc d 0 0 (mth 234).2.2.2.2.1 P234 (KJ sc d 0 0 (mth 234) P234 Q) Q 242 43 [some (.ref 142), some (.long v7r), none, some (.int (nI 0)), none, none, none, none, none] [] (pp m 142 3 D42r K42r q 29 E L) 0 0
          refine And.intro ⟨by omega, Nat.le_of_ble_eq_true rfl, Nat.le_refl _, Nat.le_refl _⟩ (And.intro (Wdo_142 hW) ?_)
          refine X218 (s0 := 45) (w := lN 17376357) hW hN hdq (by decide) (by decide) wo_45 hX42 (by omega) (fun D47r K47r v47r hX47 hy47 hv47 => ?_)
          generalize eX47a : rb X42r (fun i => pWord (lN 17376357) B n i) = X47ar at hX47 hv47
          generalize eX47 : rb X47ar (fun i => rb (pWhole (nI 0) (nI 99) B n i) fun a => .inr a.2) = X47r at hX47
          · -- a way behind the call
            show zw sc d 0 0 (mth 234).2.2.2.2.1 P234 (KJ sc d 0 0 (mth 234) P234 Q) Q 237 48 [some (.ref 142), some (.long v7r), none, some (.int (nI 0)), none, none, none, none, none] [.int v47r] (pp m 142 3 D47r K47r q 29 E L) 0 0
            refine And.intro ⟨by omega, Nat.le_of_ble_eq_true rfl, Nat.le_refl _, Nat.le_refl _⟩ (And.intro (Wdo_142 hW) ?_)
            refine X218 (s0 := 46) (w := lN 643389619) hW hN hdq (by decide) (by decide) wo_46 hX47 (by omega) (fun D53r K53r v53r hX53 hy53 hv53 => ?_)
            generalize eX53a : rb X47r (fun i => pWord (lN 643389619) B n i) = X53ar at hX53 hv53
            generalize eX53 : rb X53ar (fun i => rb (pWhole (nI 1) (nI 9) B n i) fun a => .inr a.2) = X53r at hX53
            · -- a way behind the call
              show zw sc d 0 0 (mth 234).2.2.2.2.1 P234 (KJ sc d 0 0 (mth 234) P234 Q) Q 231 54 [some (.ref 142), some (.long v7r), none, some (.int (nI 0)), some (.int v47r), none, none, none, none] [.int v53r] (pp m 142 3 D53r K53r q 29 E L) 0 0
              refine And.intro ⟨by omega, Nat.le_of_ble_eq_true rfl, Nat.le_refl _, Nat.le_refl _⟩ (And.intro (Wdo_142 hW) ?_)
              refine X218 (s0 := 47) (w := lN 215533) hW hN hdq (by decide) (by decide) wo_47 hX53 (by omega) (fun D59r K59r v59r hX59 hy59 hv59 => ?_)
              generalize eX59a : rb X53r (fun i => pWord (lN 215533) B n i) = X59ar at hX59 hv59
              generalize eX59 : rb X59ar (fun i => rb (pWhole (nI 0) (nI 23) B n i) fun a => .inr a.2) = X59r at hX59
              · -- a way behind the call
                show zw sc d 0 0 (mth 234).2.2.2.2.1 P234 (KJ sc d 0 0 (mth 234) P234 Q) Q 225 60 [some (.ref 142), some (.long v7r), none, some (.int (nI 0)), some (.int v47r), some (.int v53r), none, none, none] [.int v59r] (pp m 142 3 D59r K59r q 29 E L) 0 0
                refine And.intro ⟨by omega, Nat.le_of_ble_eq_true rfl, Nat.le_refl _, Nat.le_refl _⟩ (And.intro (Wdo_142 hW) ?_)
                refine X218 (s0 := 48) (w := lN 655) hW hN hdq (by decide) (by decide) wo_48 hX59 (by omega) (fun D67r K67r v67r hX67 hy67 hv67 => ?_)
                generalize eX67a : rb X59r (fun i => pWord (lN 655) B n i) = X67ar at hX67 hv67
                generalize eX67 : rb X67ar (fun i => rb (pWhole (v59r + nI 1) (nI 24) B n i) fun a => .inr a.2) = X67r at hX67
                · -- a way behind the call
                  show zw sc d 0 0 (mth 234).2.2.2.2.1 P234 (KJ sc d 0 0 (mth 234) P234 Q) Q 217 68 [some (.ref 142), some (.long v7r), none, some (.int (nI 0)), some (.int v47r), some (.int v53r), some (.int v59r), none, none] [.int v67r] (pp m 142 3 D67r K67r q 29 E L) 0 0
                  refine And.intro (Wdo_142 hW) ?_
                  rw [pp_10 (x := 142) (by decide)]
                  refine And.intro (fun cz72 => ?_) (fun cz72 => ?_)
                  · -- 72 taken: ¬ D67r 0 9 = nI 5
                    obtain ⟨jr, ej⟩ := RX_n hX67 cz72; obtain ⟨p67r, pe67, ph67⟩ := rb_r (eX67.trans ej); obtain ⟨⟨a67r, q67r⟩, pf67, pg67⟩ := rb_r ph67; have vv67 := hv67 _ _ _ pe67 pf67; have pg67x : q67r = _ := Sum.inr.inj pg67; obtain ⟨p67ar, pe67a, ph67a⟩ := rb_r (eX67a.trans pe67); obtain ⟨p59r, pe59, ph59⟩ := rb_r (eX59.trans pe67a); obtain ⟨⟨a59r, q59r⟩, pf59, pg59⟩ := rb_r ph59; have vv59 := hv59 _ _ _ pe59 pf59; have pg59x : q59r = _ := Sum.inr.inj pg59; obtain ⟨p59ar, pe59a, ph59a⟩ := rb_r (eX59a.trans pe59); obtain ⟨p53r, pe53, ph53⟩ := rb_r (eX53.trans pe59a); obtain ⟨⟨a53r, q53r⟩, pf53, pg53⟩ := rb_r ph53; have vv53 := hv53 _ _ _ pe53 pf53; have pg53x : q53r = _ := Sum.inr.inj pg53; obtain ⟨p53ar, pe53a, ph53a⟩ := rb_r (eX53a.trans pe53); obtain ⟨p47r, pe47, ph47⟩ := rb_r (eX47.trans pe53a); obtain ⟨⟨a47r, q47r⟩, pf47, pg47⟩ := rb_r ph47; have vv47 := hv47 _ _ _ pe47 pf47; have pg47x : q47r = _ := Sum.inr.inj pg47; obtain ⟨p47ar, pe47a, ph47a⟩ := rb_r (eX47a.trans pe47); obtain ⟨p42r, pe42, ph42⟩ := rb_r (eX42.trans pe47a); obtain ⟨⟨a42r, q42r⟩, pf42, pg42⟩ := rb_r ph42; have vv42 := hv42 _ _ _ pe42 pf42; have pg42x : q42r = _ := Sum.inr.inj pg42; obtain ⟨p7r, pe7, ph7⟩ := rb_r (eX7.trans pe42); have vv7 := hv7 _ _ pe7 ph7; have eb := eX5.trans pe7; obtain ⟨hb1, hb2, hb3⟩ := bgF_r eb
                    have hlt : nv (Λ 1 4) < 6 := by rcases Nat.lt_or_ge (nv (Λ 1 4)) 6 with z | z; exact z; exact absurd (congrArg nI (show nv (Λ 1 4) = 6 by have := hc4q.2; change _ ≤ 6 at this; omega)) hb1
                    rw [vv59] at pf67
                    have ht24 : T.1 < 24 := by have a2 := hc2q.2; have a4 := hc4q.2; have a8 := hc8q.2; have a0 := hc10q.2; change _ ≤ 6 at a2; change _ ≤ 6 at a4; change _ ≤ 8 at a8; change _ ≤ 4 at a0; omega
                    refine And.intro (Wdo_142 hW) (Exists.intro _ (And.intro hq4 ?_))
                    refine And.intro (NWo_0 hN) ?_
                    rw [pp_20 (y := q) (by omega) (by decide)]
                    rw [(show E 0 6 = nI (nv (Λ 1 4)) from hL0.2.2.2.2.2.2.1.trans hc4q.1)]
                    refine And.intro ⟨by omega, Nat.le_of_ble_eq_true rfl, Nat.le_refl _, Nat.le_refl _⟩ (And.intro (Wdo_142 hW) ?_)
                    refine D222 (k := T.1) hW hN hdq hq4 hNR.1 (by omega) ?_
                    unfold nmE
                    refine And.intro (Wdo_142 hW) (Exists.intro _ (And.intro hq4 ?_))
                    refine And.intro (NWo_0 hN) (Exists.intro _ (And.intro (NWr_0_18 hN) ?_))
                    refine And.intro (NWi_2 hN (vi rfl (by omega))) ?_
                    rw [nI_clamp (show (nv (Λ 1 4)) < 2 ^ 31 by omega)]
                    rw [pp_u2 (y := q) (f := 2) (by omega) (by decide)]
                    refine And.intro (Wdo_142 hW) (Exists.intro _ (And.intro hq4 ?_))
                    refine And.intro (NWo_0 hN) (Exists.intro _ (And.intro (NWr_0_19 hN) ?_))
                    refine And.intro (NWi_3 hN (vi rfl (by omega))) ?_
                    rw [nI_clamp (show (nv (Λ 1 4)) < 2 ^ 31 by omega)]
                    rw [pp_u2 (y := q) (f := 3) (by omega) (by decide)]
                    refine And.intro (Wdo_142 hW) (Exists.intro _ (And.intro hq4 ?_))
                    refine And.intro (NWo_0 hN) (Exists.intro _ (And.intro (NWr_0_20 hN) ?_))
                    refine And.intro (NWi_4 hN (vi rfl (by omega))) ?_
                    rw [nI_clamp (show (nv (Λ 1 4)) < 2 ^ 31 by omega)]
                    rw [pp_u2 (y := q) (f := 4) (by omega) (by decide)]
                    refine And.intro (Wdo_142 hW) (Exists.intro _ (And.intro hq4 ?_))
                    refine And.intro (NWo_0 hN) (Exists.intro _ (And.intro (NWr_0_21 hN) ?_))
                    refine And.intro (NWi_5 hN (vi rfl (by omega))) ?_
                    rw [nI_clamp (show (nv (Λ 1 4)) < 2 ^ 31 by omega)]
                    rw [pp_u2 (y := q) (f := 5) (by omega) (by decide)]
                    refine And.intro (Wdo_142 hW) (Exists.intro _ (And.intro hq4 ?_))
                    refine And.intro (NWo_0 hN) (Exists.intro _ (And.intro (NWr_0_22 hN) ?_))
                    refine And.intro (NWi_6 hN (vi rfl (by omega))) ?_
                    rw [nI_clamp (show (nv (Λ 1 4)) < 2 ^ 31 by omega)]
                    rw [pp_u2 (y := q) (f := 6) (by omega) (by decide)]
                    refine And.intro (Wdo_142 hW) (Exists.intro _ (And.intro hq4 ?_))
                    refine And.intro rfl ?_
                    refine And.intro (NWo_0 hN) ?_
                    rw [pp_20 (y := q) (by omega) (by decide)]
                    rw [ud_ne (D := (ud (ud (ud (ud (ud (ud (ud E 27 T.1 (nI 1)) 28 T.1 (nI ((nv (Λ 1 4))))) 0 15 (nI T.1 + nI 1)) 2 ((nv (Λ 1 4))) (nI 0)) 3 ((nv (Λ 1 4))) v47r) 4 ((nv (Λ 1 4))) v53r) 5 ((nv (Λ 1 4))) v59r)) (f := 6) (g := 0) (by decide)]
                    rw [ud_ne (D := (ud (ud (ud (ud (ud (ud E 27 T.1 (nI 1)) 28 T.1 (nI ((nv (Λ 1 4))))) 0 15 (nI T.1 + nI 1)) 2 ((nv (Λ 1 4))) (nI 0)) 3 ((nv (Λ 1 4))) v47r) 4 ((nv (Λ 1 4))) v53r)) (f := 5) (g := 0) (by decide)]
                    rw [ud_ne (D := (ud (ud (ud (ud (ud E 27 T.1 (nI 1)) 28 T.1 (nI ((nv (Λ 1 4))))) 0 15 (nI T.1 + nI 1)) 2 ((nv (Λ 1 4))) (nI 0)) 3 ((nv (Λ 1 4))) v47r)) (f := 4) (g := 0) (by decide)]
                    rw [ud_ne (D := (ud (ud (ud (ud E 27 T.1 (nI 1)) 28 T.1 (nI ((nv (Λ 1 4))))) 0 15 (nI T.1 + nI 1)) 2 ((nv (Λ 1 4))) (nI 0))) (f := 3) (g := 0) (by decide)]
                    rw [ud_ne (D := (ud (ud (ud E 27 T.1 (nI 1)) 28 T.1 (nI ((nv (Λ 1 4))))) 0 15 (nI T.1 + nI 1))) (f := 2) (g := 0) (by decide)]
                    refine And.intro (NWo_0 hN) ?_
                    rw [pp_u20 (y := q) (by omega) (by decide)]
                    refine And.intro ⟨rfl, rfl, Nat.le_refl _, Nat.le_refl _⟩ ?_
                    have hS : rb (bgF (nI (nv (Λ 1 4))) (nI 6) (E 0 0) B n i) (fun i => godL T Λ B n i) = .inr (tAdd T (coT B n p7r) 4 (Λ 1 4), ud (ud (ud (ud (ud Λ 3 (nv (Λ 1 4)) a42r) 16 (nv (Λ 1 4)) a47r) 4 (nv (Λ 1 4)) a53r) 5 (nv (Λ 1 4)) a59r) 6 (nv (Λ 1 4)) a67r, jr) := by
                      simp only [pf67, pg67x, ph67a, pf59, pg59x, ph59a, pf53, pg53x, ph53a, pf47, pg47x, ph47a, pf42, pg42x, ph7, eb, rb_a, rb_i, godL, tTell]
                    rw [ej] at hX67
                    refine hQ _ _ _ _ (FY_t (FY_t (FY_t (FY_t (FY_t (FY_t hy5 hy7) hy42) hy47) hy53) hy59) hy67) ?_
                    rw [hS]
                    rw [vv67]
                    rw [vv59]
                    rw [vv53]
                    rw [vv47]
                    subst vv42
                    rw [vv7]
                    rw [← hc4q.1]
                    have hb5 := nv_b1 hc4q.1 (by omega)
                    refine ⟨hX67, NR_a hNR ht24 (by decide), ⟨⟨hL0.1, hL0.2.1, hL0.2.2.1, hL0.2.2.2.1, hL0.2.2.2.2.1, hL0.2.2.2.2.2.1, (by first | rfl | exact congrArg (fun z => z + nI 1) hL0.2.2.2.2.2.2.1), hL0.2.2.2.2.2.2.2.1, hL0.2.2.2.2.2.2.2.2.1, hL0.2.2.2.2.2.2.2.2.2.1, hL0.2.2.2.2.2.2.2.2.2.2.1, hL0.2.2.2.2.2.2.2.2.2.2.2.1, hL0.2.2.2.2.2.2.2.2.2.2.2.2.1, hL0.2.2.2.2.2.2.2.2.2.2.2.2.2.1, hL0.2.2.2.2.2.2.2.2.2.2.2.2.2.2⟩, hL1, hL2, fun v hv => ?_, fun v hv => upd_q (fun z => hL4 v hv), hL5, hL6, hL7, hL8, hL9, hL10, hL11, hL12⟩⟩
                    have hv2 : v < nv (Λ 1 4) + 1 := by change v < nv (Λ 1 4 + nI 1) at hv; omega
                    exact ⟨upd_q (fun z => (hL3 v (by omega)).1), upd_q (fun z => (hL3 v (by omega)).2.1), upd_q (fun z => (hL3 v (by omega)).2.2.1), upd_q (fun z => (hL3 v (by omega)).2.2.2)⟩
                  · -- 72 not: D67r 0 9 = nI 5
                    refine And.intro ⟨rfl, rfl, Nat.le_refl _, Nat.le_refl _⟩ ?_
                    obtain ⟨er, ee⟩ := RX_5 hX67 cz72
                    rw [ee] at hX67
                    rw [← eX67a, ← eX59, rb_a] at eX67
                    have hB : rb (rb X59ar (fun i => rb (pWhole (nI 0) (nI 23) B n i) fun a => .inr a.2)) (fun i => rb (pWord (lN 655) B n i) fun i => rb (pWhole (v59r + nI 1) (nI 24) B n i) fun a => .inr a.2) = _ := bindv (F := fun v i => rb (pWord (lN 655) B n i) fun i => rb (pWhole (v + nI 1) (nI 24) B n i) fun a => .inr a.2) hv59
                    rw [hB] at eX67
                    subst eX67
                    subst eX67a
                    subst eX59
                    subst eX59a
                    subst eX53
                    subst eX53a
                    subst eX47
                    subst eX47a
                    subst eX42
                    subst eX7
                    subst eX5
                    refine hQ _ _ _ _ (FY_t (FY_t (FY_t (FY_t (FY_t (FY_t hy5 hy7) hy42) hy47) hy53) hy59) hy67) (lnPt_l (Eq.trans ?_ ee) hX67)
                    simp only [rb_a, rb_i, rb_d, godL, tTell]
