theorem iR_m2 : ¬ iR (-nI 2) 5 := by
  rintro ⟨k, hk, e⟩
  have : k = 0 ∨ k = 1 ∨ k = 2 ∨ k = 3 ∨ k = 4 := by omega
  rcases this with rfl | rfl | rfl | rfl | rfl <;> exact absurd e (by decide)
theorem pG_0 {B : Nat → Int32} {n i j : Nat} {x : Int32} (h : pGround (nI 0) B n i = .inr (x, j)) : ¬ x = -nI 2 := fun z => by
  rcases pGround_v h with h1 | h1
  · exact h1.2 (by decide)
  · rw [z] at h1
    exact iR_m2 h1
theorem cfq_0 {f : Nat → Int32} {k : Nat} {x0q x1q x2q x3q : Int32} : (upd (upd (upd (upd f (k * 4) x0q) (k * 4 + 1) x1q) (k * 4 + 2) x2q) (k * 4 + 3) x3q) (k * 4) = x0q := by rw [upd_o (by omega), upd_o (by omega), upd_o (by omega), upd_e]
theorem cfo_0 {f : Nat → Int32} {k v : Nat} {x0q x1q x2q x3q : Int32} (h : v ≠ k) : (upd (upd (upd (upd f (k * 4) x0q) (k * 4 + 1) x1q) (k * 4 + 2) x2q) (k * 4 + 3) x3q) (v * 4) = f (v * 4) := by rw [upd_o (by omega), upd_o (by omega), upd_o (by omega), upd_o (by omega)]
theorem cfq_1 {f : Nat → Int32} {k : Nat} {x0q x1q x2q x3q : Int32} : (upd (upd (upd (upd f (k * 4) x0q) (k * 4 + 1) x1q) (k * 4 + 2) x2q) (k * 4 + 3) x3q) (k * 4 + 1) = x1q := by rw [upd_o (by omega), upd_o (by omega), upd_e]
theorem cfo_1 {f : Nat → Int32} {k v : Nat} {x0q x1q x2q x3q : Int32} (h : v ≠ k) : (upd (upd (upd (upd f (k * 4) x0q) (k * 4 + 1) x1q) (k * 4 + 2) x2q) (k * 4 + 3) x3q) (v * 4 + 1) = f (v * 4 + 1) := by rw [upd_o (by omega), upd_o (by omega), upd_o (by omega), upd_o (by omega)]
theorem cfq_2 {f : Nat → Int32} {k : Nat} {x0q x1q x2q x3q : Int32} : (upd (upd (upd (upd f (k * 4) x0q) (k * 4 + 1) x1q) (k * 4 + 2) x2q) (k * 4 + 3) x3q) (k * 4 + 2) = x2q := by rw [upd_o (by omega), upd_e]
theorem cfo_2 {f : Nat → Int32} {k v : Nat} {x0q x1q x2q x3q : Int32} (h : v ≠ k) : (upd (upd (upd (upd f (k * 4) x0q) (k * 4 + 1) x1q) (k * 4 + 2) x2q) (k * 4 + 3) x3q) (v * 4 + 2) = f (v * 4 + 2) := by rw [upd_o (by omega), upd_o (by omega), upd_o (by omega), upd_o (by omega)]
theorem cfq_3 {f : Nat → Int32} {k : Nat} {x0q x1q x2q x3q : Int32} : (upd (upd (upd (upd f (k * 4) x0q) (k * 4 + 1) x1q) (k * 4 + 2) x2q) (k * 4 + 3) x3q) (k * 4 + 3) = x3q := by rw [upd_e]
theorem cfo_3 {f : Nat → Int32} {k v : Nat} {x0q x1q x2q x3q : Int32} (h : v ≠ k) : (upd (upd (upd (upd f (k * 4) x0q) (k * 4 + 1) x1q) (k * 4 + 2) x2q) (k * 4 + 3) x3q) (v * 4 + 3) = f (v * 4 + 3) := by rw [upd_o (by omega), upd_o (by omega), upd_o (by omega), upd_o (by omega)]
theorem L242 {d : Nat} {m : Mm} {Q : Option Value → Mm → Prop} {q : Nat} {E : Nat → Nat → Int32} {L : Nat → Nat → Int64} (hW : Wd m.2.2) (hN : NW m.2.2 q) (hdq : q + 29 ≤ 142 ∨ 142 + 3 ≤ q) {D : Nat → Nat → Int32} {K : Nat → Nat → Int64} {Λ : Nat → Nat → Int32} {T : NT} (hq4 : va_rf (mR m 142 4) = .ref q) (hLQ : LQ Λ E) (hNR : NR T E L) (hI : LRI T Λ) {B : Nat → Int32} {n i : Nat} (hR : RBy B n D) (hT : TR B n i D K) (hi : i ≤ n) (h14 : D 0 14 = nI 0) (kk2 : kiF B n i = 2) (hd : 13 ≤ d) (hQ : ∀ D1 K1 E1 L1, FY D D1 → lnPt B n 12 (rb (bgF (nI (nv (Λ 1 12))) (nI 8) (E 0 0) B n i) (fun i => sawL T Λ B n i)) D1 K1 E1 L1 → Q none (pp m 142 3 D1 K1 q 29 E1 L1)) : Cc d 0 0 242 [.ref 142] (pp m 142 3 D K q 29 E L) Q := by
  obtain ⟨hL0, hL1, hL2, hL3, hL4, hL5, hL6, hL7, hL8, hL9, hL10, hL11, hL12⟩ := hLQ
  obtain ⟨hC, hWI, hNN, hVI⟩ := hI
  obtain ⟨hn0, hTS2, hTS4, hTS8⟩ := hNN
  have hc2q := hC 2 (by decide)
  have hc4q := hC 4 (by decide)
  have hc8q := hC 8 (by decide)
  have hc10q := hC 10 (by decide)
  have hc12q := hC 12 (by decide)
  refine ent (n := 178) z242 (by decide) rfl (by decide) (Nat.le_of_ble_eq_true rfl) (fun sc => ?_)
  refine And.intro (Wdo_142 hW) (Exists.intro _ (And.intro hq4 ?_))
  refine And.intro (NWo_0 hN) ?_
  rw [pp_20 (y := q) (by omega) (by decide)]
  rw [(show E 0 14 = nI (nv (Λ 1 12)) from hL0.2.2.2.2.2.2.2.2.2.2.2.2.2.2.trans hc12q.1)]
  refine And.intro ⟨by omega, Nat.le_of_ble_eq_true rfl, Nat.le_refl _, Nat.le_refl _⟩ (And.intro (Wdo_142 hW) ?_)
  refine L220 hW hN hdq hq4 hR hT hi h14 kk2 (by omega) (fun D5r K5r hX5 hy5 => ?_)
  generalize eX5 : bgF (nI ((nv (Λ 1 12)))) (nI 8) (E 0 0) B n i = X5r at hX5
  · -- a way behind the call
    show zw sc d 0 0 (mth 242).2.2.2.2.1 P242 (KJ sc d 0 0 (mth 242) P242 Q) Q 173 6 [some (.ref 142), none, none, none, none] [] (pp m 142 3 D5r K5r q 29 E L) 0 0
    refine And.intro ⟨by omega, Nat.le_of_ble_eq_true rfl, Nat.le_refl _, Nat.le_refl _⟩ (And.intro (Wdo_142 hW) ?_)
    refine X224 (so := 2) hW hN hdq (by decide) hq4 hNR hX5 (by omega) (fun D8r K8r v8r hX8 hy8 hv8 => ?_)
    generalize eX8 : rb X5r (fun i => rb (tUse T 2 B n i) fun a => .inr a.2) = X8r at hX8
    · -- a way behind the call
      show zw sc d 0 0 (mth 242).2.2.2.2.1 P242 (KJ sc d 0 0 (mth 242) P242 Q) Q 170 9 [some (.ref 142), none, none, none, none] [.int v8r] (pp m 142 3 D8r K8r q 29 E L) 0 0
      refine And.intro ⟨by omega, Nat.le_of_ble_eq_true rfl, Nat.le_refl _, Nat.le_refl _⟩ (And.intro (Wdo_142 hW) ?_)
      refine X227 hW hN hdq hX8 (by omega) (fun D12r K12r v12r hX12 hy12 hv12 => ?_)
      generalize eX12 : rb X8r (fun i => rb (pGround (nI 0) B n i) fun a => .inr a.2) = X12r at hX12
      · -- a way behind the call
        show zw sc d 0 0 (mth 242).2.2.2.2.1 P242 (KJ sc d 0 0 (mth 242) P242 Q) Q 166 13 [some (.ref 142), some (.int v8r), none, none, none] [.int v12r] (pp m 142 3 D12r K12r q 29 E L) 0 0
        refine And.intro ⟨by omega, Nat.le_of_ble_eq_true rfl, Nat.le_refl _, Nat.le_refl _⟩ (And.intro (Wdo_142 hW) ?_)
        refine X217 hW hN hdq hX12 (by omega) (fun D17r K17r v17r hX17 hy17 hv17 => ?_)
        generalize eX17 : rb X12r (fun i => rb (pWhole (nI 0) (nI 23) B n i) fun a => .inr a.2) = X17r at hX17
        · -- a way behind the call
          show zw sc d 0 0 (mth 242).2.2.2.2.1 P242 (KJ sc d 0 0 (mth 242) P242 Q) Q 161 18 [some (.ref 142), some (.int v8r), some (.int v12r), none, none] [.int v17r] (pp m 142 3 D17r K17r q 29 E L) 0 0
          refine And.intro ⟨by omega, Nat.le_of_ble_eq_true rfl, Nat.le_refl _, Nat.le_refl _⟩ (And.intro (Wdo_142 hW) ?_)
          refine X213 (s0 := 57) hW hN hdq hX17 (by decide) (by decide) wo_57 (by omega) ?_
          refine And.intro (fun cz24 => ?_) (fun cz24 => ?_)
          · -- 24 taken: ¬ bi (wqX B n X17r (lN 25779)) = 0
            refine And.intro ⟨by omega, Nat.le_of_ble_eq_true rfl, Nat.le_refl _, Nat.le_refl _⟩ (And.intro (Wdo_142 hW) ?_)
            refine X211 hW hN hdq hX17 (fun i e => by rw [wq_2 (bi_ne0.mp cz24) e]; decide) (by omega) (fun D33r K33r hX33 hy33 => ?_)
            · -- a way behind the call
              have hpk33 := pk_y (cs := [lN 463, lN 25779]) (k := nI 1) (bi_ne0.mp cz24) (by decide) (by decide)
              rw [hpk33.1] at hX33
              have hv33 := hpk33.2
              generalize eX33 : rb X17r (fun i => rb (pPick [lN 463, lN 25779] B n i) fun a => .inr a.2) = X33r at hX33
              show zw sc d 0 0 (mth 242).2.2.2.2.1 P242 (KJ sc d 0 0 (mth 242) P242 Q) Q 152 34 [some (.ref 142), some (.int v8r), some (.int v12r), some (.int v17r), some (.int (bi (wqX B n X17r (lN 25779))))] [] (pp m 142 3 D33r K33r q 29 E L) 0 0
              refine And.intro (Wdo_142 hW) ?_
              rw [pp_10 (x := 142) (by decide)]
              refine And.intro (fun cz37 => ?_) (fun cz37 => ?_)
              · -- 37 taken: ¬ D33r 0 9 = nI 5
                obtain ⟨jr, ej⟩ := RX_n hX33 cz37; obtain ⟨p33r, pe33, ph33⟩ := rb_r (eX33.trans ej); obtain ⟨⟨a33r, q33r⟩, pf33, pg33⟩ := rb_r ph33; have vv33 := hv33 _ _ _ pe33 pf33; have pg33x : q33r = _ := Sum.inr.inj pg33; obtain ⟨p17r, pe17, ph17⟩ := rb_r (eX17.trans pe33); obtain ⟨⟨a17r, q17r⟩, pf17, pg17⟩ := rb_r ph17; have vv17 := hv17 _ _ _ pe17 pf17; have pg17x : q17r = _ := Sum.inr.inj pg17; obtain ⟨p12r, pe12, ph12⟩ := rb_r (eX12.trans pe17); obtain ⟨⟨a12r, q12r⟩, pf12, pg12⟩ := rb_r ph12; have vv12 := hv12 _ _ _ pe12 pf12; have pg12x : q12r = _ := Sum.inr.inj pg12; obtain ⟨p8r, pe8, ph8⟩ := rb_r (eX8.trans pe12); obtain ⟨⟨a8r, q8r⟩, pf8, pg8⟩ := rb_r ph8; have vv8 := hv8 _ _ _ pe8 pf8; have pg8x : q8r = _ := Sum.inr.inj pg8; have eb := eX5.trans pe8; obtain ⟨hb1, hb2, hb3⟩ := bgF_r eb
                have hlt : nv (Λ 1 12) < 8 := by rcases Nat.lt_or_ge (nv (Λ 1 12)) 8 with z | z; exact z; exact absurd (congrArg nI (show nv (Λ 1 12) = 8 by have := hc12q.2; change _ ≤ 8 at this; omega)) hb1
                have vw12 := vv12.2 (pG_0 pf12)
                refine And.intro (Wdo_142 hW) (Exists.intro _ (And.intro hq4 ?_))
                refine And.intro (NWo_0 hN) (Exists.intro _ (And.intro (NWr_0_38 hN) ?_))
                refine And.intro (Wdo_142 hW) (Exists.intro _ (And.intro hq4 ?_))
                refine And.intro (NWo_0 hN) ?_
                rw [pp_20 (y := q) (by omega) (by decide)]
                rw [(show E 0 14 = nI (nv (Λ 1 12)) from hL0.2.2.2.2.2.2.2.2.2.2.2.2.2.2.trans hc12q.1)]
                refine And.intro (NWi_22 hN (vi rfl (by omega))) ?_
                rw [nI_clamp (show (nv (Λ 1 12)) < 2 ^ 31 by omega)]
                rw [pp_u2 (y := q) (f := 22) (by omega) (by decide)]
                refine And.intro (Wdo_142 hW) (Exists.intro _ (And.intro hq4 ?_))
                refine And.intro (NWo_0 hN) (Exists.intro _ (And.intro (NWr_0_39 hN) ?_))
                refine And.intro (Wdo_142 hW) (Exists.intro _ (And.intro hq4 ?_))
                refine And.intro (NWo_0 hN) ?_
                rw [pp_20 (y := q) (by omega) (by decide)]
                rw [ud_ne (D := E) (f := 22) (g := 0) (by decide)]
                rw [(show E 0 14 = nI (nv (Λ 1 12)) from hL0.2.2.2.2.2.2.2.2.2.2.2.2.2.2.trans hc12q.1)]
                refine And.intro (NWi_23 hN (vi rfl (by omega))) ?_
                rw [nI_clamp (show (nv (Λ 1 12)) < 2 ^ 31 by omega)]
                rw [pp_u2 (y := q) (f := 23) (by omega) (by decide)]
                refine And.intro (Wdo_142 hW) (Exists.intro _ (And.intro hq4 ?_))
                refine And.intro (NWo_0 hN) (Exists.intro _ (And.intro (NWr_0_40 hN) ?_))
                refine And.intro (Wdo_142 hW) (Exists.intro _ (And.intro hq4 ?_))
                refine And.intro (NWo_0 hN) ?_
                rw [pp_20 (y := q) (by omega) (by decide)]
                rw [ud_ne (D := (ud E 22 ((nv (Λ 1 12))) v8r)) (f := 23) (g := 0) (by decide)]
                rw [ud_ne (D := E) (f := 22) (g := 0) (by decide)]
                rw [(show E 0 14 = nI (nv (Λ 1 12)) from hL0.2.2.2.2.2.2.2.2.2.2.2.2.2.2.trans hc12q.1)]
                refine And.intro (NWi_24 hN (vi rfl (by omega))) ?_
                rw [nI_clamp (show (nv (Λ 1 12)) < 2 ^ 31 by omega)]
                rw [pp_u2 (y := q) (f := 24) (by omega) (by decide)]
                refine And.intro (Wdo_142 hW) (Exists.intro _ (And.intro hq4 ?_))
                refine And.intro (NWo_0 hN) (Exists.intro _ (And.intro (NWr_0_41 hN) ?_))
                refine And.intro (Wdo_142 hW) (Exists.intro _ (And.intro hq4 ?_))
                refine And.intro (NWo_0 hN) ?_
                rw [pp_20 (y := q) (by omega) (by decide)]
                rw [ud_ne (D := (ud (ud E 22 ((nv (Λ 1 12))) v8r) 23 ((nv (Λ 1 12))) v12r)) (f := 24) (g := 0) (by decide)]
                rw [ud_ne (D := (ud E 22 ((nv (Λ 1 12))) v8r)) (f := 23) (g := 0) (by decide)]
                rw [ud_ne (D := E) (f := 22) (g := 0) (by decide)]
                rw [(show E 0 14 = nI (nv (Λ 1 12)) from hL0.2.2.2.2.2.2.2.2.2.2.2.2.2.2.trans hc12q.1)]
                refine And.intro (NWi_25 hN (vi rfl (by omega))) ?_
                rw [nI_clamp (show (nv (Λ 1 12)) < 2 ^ 31 by omega)]
                rw [show vp_nar .boolean (bi (wqX B n X17r (lN 25779))) = nI 1 from by rw [bi_t (bi_ne0.mp cz24)]; rfl]
                rw [pp_u2 (y := q) (f := 25) (by omega) (by decide)]
                refine And.intro (Wdo_142 hW) (Exists.intro _ (And.intro hq4 ?_))
                refine And.intro rfl ?_
                refine And.intro (NWo_0 hN) ?_
                rw [pp_20 (y := q) (by omega) (by decide)]
                rw [ud_ne (D := (ud (ud (ud E 22 ((nv (Λ 1 12))) v8r) 23 ((nv (Λ 1 12))) v12r) 24 ((nv (Λ 1 12))) v17r)) (f := 25) (g := 0) (by decide)]
                rw [ud_ne (D := (ud (ud E 22 ((nv (Λ 1 12))) v8r) 23 ((nv (Λ 1 12))) v12r)) (f := 24) (g := 0) (by decide)]
                rw [ud_ne (D := (ud E 22 ((nv (Λ 1 12))) v8r)) (f := 23) (g := 0) (by decide)]
                rw [ud_ne (D := E) (f := 22) (g := 0) (by decide)]
                rw [(show E 0 14 = nI (nv (Λ 1 12)) from hL0.2.2.2.2.2.2.2.2.2.2.2.2.2.2.trans hc12q.1)]
                refine And.intro (NWo_0 hN) ?_
                rw [pp_u20 (y := q) (by omega) (by decide)]
                refine And.intro ⟨rfl, rfl, Nat.le_refl _, Nat.le_refl _⟩ ?_
                have hS : rb (bgF (nI (nv (Λ 1 12))) (nI 8) (E 0 0) B n i) (fun i => sawL T Λ B n i) = .inr (T, ud (ud (ud (ud Λ 14 (nv (Λ 1 12) * 4) a8r) 14 (nv (Λ 1 12) * 4 + 1) a12r) 14 (nv (Λ 1 12) * 4 + 2) a17r) 14 (nv (Λ 1 12) * 4 + 3) a33r, jr) := by
                  simp only [pf33, pg33x, pf17, pg17x, pf12, pg12x, pf8, pg8x, eb, rb_a, rb_i, sawL]
                rw [ej] at hX33
                refine hQ _ _ _ _ (FY_t (FY_t (FY_t (FY_t hy5 hy8) hy12) hy17) hy33) ?_
                rw [hS]
                subst vv33
                rw [vv17]
                rw [vw12]
                rw [vv8]
                rw [← hc12q.1]
                have hb5 := nv_b1 hc12q.1 (by omega)
                refine ⟨hX33, hNR, ⟨⟨hL0.1, hL0.2.1, hL0.2.2.1, hL0.2.2.2.1, hL0.2.2.2.2.1, hL0.2.2.2.2.2.1, hL0.2.2.2.2.2.2.1, hL0.2.2.2.2.2.2.2.1, hL0.2.2.2.2.2.2.2.2.1, hL0.2.2.2.2.2.2.2.2.2.1, hL0.2.2.2.2.2.2.2.2.2.2.1, hL0.2.2.2.2.2.2.2.2.2.2.2.1, hL0.2.2.2.2.2.2.2.2.2.2.2.2.1, hL0.2.2.2.2.2.2.2.2.2.2.2.2.2.1, (by first | rfl | exact congrArg (fun z => z + nI 1) hL0.2.2.2.2.2.2.2.2.2.2.2.2.2.2)⟩, hL1, hL2, hL3, hL4, hL5, hL6, hL7, hL8, hL9, hL10, hL11, fun v hv => ?_⟩⟩
                have hv2 : v < nv (Λ 1 12) + 1 := by change v < nv (Λ 1 12 + nI 1) at hv; omega
                by_cases e : v = nv (Λ 1 12)
                · rw [e]
                  exact ⟨upd_e.trans cfq_0.symm, upd_e.trans cfq_1.symm, upd_e.trans cfq_2.symm, upd_e.trans cfq_3.symm⟩
                · have h9 := hL12 v (by omega)
                  exact ⟨(upd_o e).trans (h9.1.trans (cfo_0 e).symm), (upd_o e).trans (h9.2.1.trans (cfo_1 e).symm), (upd_o e).trans (h9.2.2.1.trans (cfo_2 e).symm), (upd_o e).trans (h9.2.2.2.trans (cfo_3 e).symm)⟩
              · -- 37 not: D33r 0 9 = nI 5
                refine And.intro ⟨rfl, rfl, Nat.le_refl _, Nat.le_refl _⟩ ?_
                obtain ⟨er, ee⟩ := RX_5 hX33 cz37
                rw [ee] at hX33
                subst eX33
                subst eX17
                subst eX12
                subst eX8
                subst eX5
                refine hQ _ _ _ _ (FY_t (FY_t (FY_t (FY_t hy5 hy8) hy12) hy17) hy33) (lnPt_l (Eq.trans ?_ ee) hX33)
                simp only [rb_a, rb_i, rb_d, sawL]
          · -- 24 not: bi (wqX B n X17r (lN 25779)) = 0
            refine And.intro ⟨by omega, Nat.le_of_ble_eq_true rfl, Nat.le_refl _, Nat.le_refl _⟩ (And.intro (Wdo_142 hW) ?_)
            refine X213 (s0 := 58) hW hN hdq hX17 (by decide) (by decide) wo_58 (by omega) ?_
            refine And.intro (fun cz28 => ?_) (fun cz28 => ?_)
            · -- 28 taken: ¬ bi (wqX B n X17r (lN 463)) = 0
              refine And.intro ⟨by omega, Nat.le_of_ble_eq_true rfl, Nat.le_refl _, Nat.le_refl _⟩ (And.intro (Wdo_142 hW) ?_)
              refine X211 hW hN hdq hX17 (fun i e => by rw [wq_2 (bi_ne0.mp cz28) e]; decide) (by omega) (fun D33r K33r hX33 hy33 => ?_)
              · -- a way behind the call
                have hpk33 := pk_y (cs := [lN 463, lN 25779]) (k := nI 0) (bi_ne0.mp cz28) (by decide) (by decide)
                rw [hpk33.1] at hX33
                have hv33 := hpk33.2
                generalize eX33 : rb X17r (fun i => rb (pPick [lN 463, lN 25779] B n i) fun a => .inr a.2) = X33r at hX33
                show zw sc d 0 0 (mth 242).2.2.2.2.1 P242 (KJ sc d 0 0 (mth 242) P242 Q) Q 148 34 [some (.ref 142), some (.int v8r), some (.int v12r), some (.int v17r), some (.int (bi (wqX B n X17r (lN 25779))))] [] (pp m 142 3 D33r K33r q 29 E L) 0 0
                refine And.intro (Wdo_142 hW) ?_
                rw [pp_10 (x := 142) (by decide)]
                refine And.intro (fun cz37 => ?_) (fun cz37 => ?_)
                · -- 37 taken: ¬ D33r 0 9 = nI 5
                  obtain ⟨jr, ej⟩ := RX_n hX33 cz37; obtain ⟨p33r, pe33, ph33⟩ := rb_r (eX33.trans ej); obtain ⟨⟨a33r, q33r⟩, pf33, pg33⟩ := rb_r ph33; have vv33 := hv33 _ _ _ pe33 pf33; have pg33x : q33r = _ := Sum.inr.inj pg33; obtain ⟨p17r, pe17, ph17⟩ := rb_r (eX17.trans pe33); obtain ⟨⟨a17r, q17r⟩, pf17, pg17⟩ := rb_r ph17; have vv17 := hv17 _ _ _ pe17 pf17; have pg17x : q17r = _ := Sum.inr.inj pg17; obtain ⟨p12r, pe12, ph12⟩ := rb_r (eX12.trans pe17); obtain ⟨⟨a12r, q12r⟩, pf12, pg12⟩ := rb_r ph12; have vv12 := hv12 _ _ _ pe12 pf12; have pg12x : q12r = _ := Sum.inr.inj pg12; obtain ⟨p8r, pe8, ph8⟩ := rb_r (eX8.trans pe12); obtain ⟨⟨a8r, q8r⟩, pf8, pg8⟩ := rb_r ph8; have vv8 := hv8 _ _ _ pe8 pf8; have pg8x : q8r = _ := Sum.inr.inj pg8; have eb := eX5.trans pe8; obtain ⟨hb1, hb2, hb3⟩ := bgF_r eb
                  have hlt : nv (Λ 1 12) < 8 := by rcases Nat.lt_or_ge (nv (Λ 1 12)) 8 with z | z; exact z; exact absurd (congrArg nI (show nv (Λ 1 12) = 8 by have := hc12q.2; change _ ≤ 8 at this; omega)) hb1
                  have vw12 := vv12.2 (pG_0 pf12)
                  refine And.intro (Wdo_142 hW) (Exists.intro _ (And.intro hq4 ?_))
                  refine And.intro (NWo_0 hN) (Exists.intro _ (And.intro (NWr_0_38 hN) ?_))
                  refine And.intro (Wdo_142 hW) (Exists.intro _ (And.intro hq4 ?_))
                  refine And.intro (NWo_0 hN) ?_
                  rw [pp_20 (y := q) (by omega) (by decide)]
                  rw [(show E 0 14 = nI (nv (Λ 1 12)) from hL0.2.2.2.2.2.2.2.2.2.2.2.2.2.2.trans hc12q.1)]
                  refine And.intro (NWi_22 hN (vi rfl (by omega))) ?_
                  rw [nI_clamp (show (nv (Λ 1 12)) < 2 ^ 31 by omega)]
                  rw [pp_u2 (y := q) (f := 22) (by omega) (by decide)]
                  refine And.intro (Wdo_142 hW) (Exists.intro _ (And.intro hq4 ?_))
                  refine And.intro (NWo_0 hN) (Exists.intro _ (And.intro (NWr_0_39 hN) ?_))
                  refine And.intro (Wdo_142 hW) (Exists.intro _ (And.intro hq4 ?_))
                  refine And.intro (NWo_0 hN) ?_
                  rw [pp_20 (y := q) (by omega) (by decide)]
                  rw [ud_ne (D := E) (f := 22) (g := 0) (by decide)]
                  rw [(show E 0 14 = nI (nv (Λ 1 12)) from hL0.2.2.2.2.2.2.2.2.2.2.2.2.2.2.trans hc12q.1)]
                  refine And.intro (NWi_23 hN (vi rfl (by omega))) ?_
                  rw [nI_clamp (show (nv (Λ 1 12)) < 2 ^ 31 by omega)]
                  rw [pp_u2 (y := q) (f := 23) (by omega) (by decide)]
                  refine And.intro (Wdo_142 hW) (Exists.intro _ (And.intro hq4 ?_))
                  refine And.intro (NWo_0 hN) (Exists.intro _ (And.intro (NWr_0_40 hN) ?_))
                  refine And.intro (Wdo_142 hW) (Exists.intro _ (And.intro hq4 ?_))
                  refine And.intro (NWo_0 hN) ?_
                  rw [pp_20 (y := q) (by omega) (by decide)]
                  rw [ud_ne (D := (ud E 22 ((nv (Λ 1 12))) v8r)) (f := 23) (g := 0) (by decide)]
                  rw [ud_ne (D := E) (f := 22) (g := 0) (by decide)]
                  rw [(show E 0 14 = nI (nv (Λ 1 12)) from hL0.2.2.2.2.2.2.2.2.2.2.2.2.2.2.trans hc12q.1)]
                  refine And.intro (NWi_24 hN (vi rfl (by omega))) ?_
                  rw [nI_clamp (show (nv (Λ 1 12)) < 2 ^ 31 by omega)]
                  rw [pp_u2 (y := q) (f := 24) (by omega) (by decide)]
                  refine And.intro (Wdo_142 hW) (Exists.intro _ (And.intro hq4 ?_))
                  refine And.intro (NWo_0 hN) (Exists.intro _ (And.intro (NWr_0_41 hN) ?_))
                  refine And.intro (Wdo_142 hW) (Exists.intro _ (And.intro hq4 ?_))
                  refine And.intro (NWo_0 hN) ?_
                  rw [pp_20 (y := q) (by omega) (by decide)]
                  rw [ud_ne (D := (ud (ud E 22 ((nv (Λ 1 12))) v8r) 23 ((nv (Λ 1 12))) v12r)) (f := 24) (g := 0) (by decide)]
                  rw [ud_ne (D := (ud E 22 ((nv (Λ 1 12))) v8r)) (f := 23) (g := 0) (by decide)]
                  rw [ud_ne (D := E) (f := 22) (g := 0) (by decide)]
                  rw [(show E 0 14 = nI (nv (Λ 1 12)) from hL0.2.2.2.2.2.2.2.2.2.2.2.2.2.2.trans hc12q.1)]
                  refine And.intro (NWi_25 hN (vi rfl (by omega))) ?_
                  rw [nI_clamp (show (nv (Λ 1 12)) < 2 ^ 31 by omega)]
                  rw [show vp_nar .boolean (bi (wqX B n X17r (lN 25779))) = nI 0 from by rw [bi_f (bi_eq0.mp cz24)]; rfl]
                  rw [pp_u2 (y := q) (f := 25) (by omega) (by decide)]
                  refine And.intro (Wdo_142 hW) (Exists.intro _ (And.intro hq4 ?_))
                  refine And.intro rfl ?_
                  refine And.intro (NWo_0 hN) ?_
                  rw [pp_20 (y := q) (by omega) (by decide)]
                  rw [ud_ne (D := (ud (ud (ud E 22 ((nv (Λ 1 12))) v8r) 23 ((nv (Λ 1 12))) v12r) 24 ((nv (Λ 1 12))) v17r)) (f := 25) (g := 0) (by decide)]
                  rw [ud_ne (D := (ud (ud E 22 ((nv (Λ 1 12))) v8r) 23 ((nv (Λ 1 12))) v12r)) (f := 24) (g := 0) (by decide)]
                  rw [ud_ne (D := (ud E 22 ((nv (Λ 1 12))) v8r)) (f := 23) (g := 0) (by decide)]
                  rw [ud_ne (D := E) (f := 22) (g := 0) (by decide)]
                  rw [(show E 0 14 = nI (nv (Λ 1 12)) from hL0.2.2.2.2.2.2.2.2.2.2.2.2.2.2.trans hc12q.1)]
                  refine And.intro (NWo_0 hN) ?_
                  rw [pp_u20 (y := q) (by omega) (by decide)]
                  refine And.intro ⟨rfl, rfl, Nat.le_refl _, Nat.le_refl _⟩ ?_
                  have hS : rb (bgF (nI (nv (Λ 1 12))) (nI 8) (E 0 0) B n i) (fun i => sawL T Λ B n i) = .inr (T, ud (ud (ud (ud Λ 14 (nv (Λ 1 12) * 4) a8r) 14 (nv (Λ 1 12) * 4 + 1) a12r) 14 (nv (Λ 1 12) * 4 + 2) a17r) 14 (nv (Λ 1 12) * 4 + 3) a33r, jr) := by
                    simp only [pf33, pg33x, pf17, pg17x, pf12, pg12x, pf8, pg8x, eb, rb_a, rb_i, sawL]
                  rw [ej] at hX33
                  refine hQ _ _ _ _ (FY_t (FY_t (FY_t (FY_t hy5 hy8) hy12) hy17) hy33) ?_
                  rw [hS]
                  subst vv33
                  rw [vv17]
                  rw [vw12]
                  rw [vv8]
                  rw [← hc12q.1]
                  have hb5 := nv_b1 hc12q.1 (by omega)
                  refine ⟨hX33, hNR, ⟨⟨hL0.1, hL0.2.1, hL0.2.2.1, hL0.2.2.2.1, hL0.2.2.2.2.1, hL0.2.2.2.2.2.1, hL0.2.2.2.2.2.2.1, hL0.2.2.2.2.2.2.2.1, hL0.2.2.2.2.2.2.2.2.1, hL0.2.2.2.2.2.2.2.2.2.1, hL0.2.2.2.2.2.2.2.2.2.2.1, hL0.2.2.2.2.2.2.2.2.2.2.2.1, hL0.2.2.2.2.2.2.2.2.2.2.2.2.1, hL0.2.2.2.2.2.2.2.2.2.2.2.2.2.1, (by first | rfl | exact congrArg (fun z => z + nI 1) hL0.2.2.2.2.2.2.2.2.2.2.2.2.2.2)⟩, hL1, hL2, hL3, hL4, hL5, hL6, hL7, hL8, hL9, hL10, hL11, fun v hv => ?_⟩⟩
                  have hv2 : v < nv (Λ 1 12) + 1 := by change v < nv (Λ 1 12 + nI 1) at hv; omega
                  by_cases e : v = nv (Λ 1 12)
                  · rw [e]
                    exact ⟨upd_e.trans cfq_0.symm, upd_e.trans cfq_1.symm, upd_e.trans cfq_2.symm, upd_e.trans cfq_3.symm⟩
                  · have h9 := hL12 v (by omega)
                    exact ⟨(upd_o e).trans (h9.1.trans (cfo_0 e).symm), (upd_o e).trans (h9.2.1.trans (cfo_1 e).symm), (upd_o e).trans (h9.2.2.1.trans (cfo_2 e).symm), (upd_o e).trans (h9.2.2.2.trans (cfo_3 e).symm)⟩
                · -- 37 not: D33r 0 9 = nI 5
                  refine And.intro ⟨rfl, rfl, Nat.le_refl _, Nat.le_refl _⟩ ?_
                  obtain ⟨er, ee⟩ := RX_5 hX33 cz37
                  rw [ee] at hX33
                  subst eX33
                  subst eX17
                  subst eX12
                  subst eX8
                  subst eX5
                  refine hQ _ _ _ _ (FY_t (FY_t (FY_t (FY_t hy5 hy8) hy12) hy17) hy33) (lnPt_l (Eq.trans ?_ ee) hX33)
                  simp only [rb_a, rb_i, rb_d, sawL]
            · -- 28 not: bi (wqX B n X17r (lN 463)) = 0
              refine And.intro ⟨by omega, Nat.le_of_ble_eq_true rfl, Nat.le_refl _, Nat.le_refl _⟩ (And.intro (Wdo_142 hW) ?_)
              refine X212 (f := 1) hW hN hdq hX17 (fun D31r hX31 hy31 => ?_)
              · -- a way behind the call
                show zw sc d 0 0 (mth 242).2.2.2.2.1 P242 (KJ sc d 0 0 (mth 242) P242 Q) Q 147 32 [some (.ref 142), some (.int v8r), some (.int v12r), some (.int v17r), some (.int (bi (wqX B n X17r (lN 25779))))] [] (pp m 142 3 D31r K17r q 29 E L) 0 0
                refine And.intro ⟨by omega, Nat.le_of_ble_eq_true rfl, Nat.le_refl _, Nat.le_refl _⟩ (And.intro (Wdo_142 hW) ?_)
                refine X211 hW hN hdq hX31 (fun i e => by obtain ⟨_, _, h⟩ := rb_r e; cases h) (by omega) (fun D33r K33r hX33 hy33 => ?_)
                · -- a way behind the call
                  have hpk33 := pk_n (X := X17r) (cs := [lN 463, lN 25779]) (fun i e h2 => by rw [ixF, if_neg (wq_n (bi_eq0.mp cz28) e h2), ixF, if_neg (wq_n (bi_eq0.mp cz24) e h2), ixF])
                  rw [hpk33.1] at hX33
                  have hv33 : ∀ i9 a j, X17r = .inr i9 → pPick [lN 463, lN 25779] B n i9 = .inr (a, j) → nI 0 = a := fun i9 a j e z => absurd z (hpk33.2 i9 a j e)
                  generalize eX33 : rb X17r (fun i => rb (pPick [lN 463, lN 25779] B n i) fun a => .inr a.2) = X33r at hX33
                  show zw sc d 0 0 (mth 242).2.2.2.2.1 P242 (KJ sc d 0 0 (mth 242) P242 Q) Q 145 34 [some (.ref 142), some (.int v8r), some (.int v12r), some (.int v17r), some (.int (bi (wqX B n X17r (lN 25779))))] [] (pp m 142 3 D33r K33r q 29 E L) 0 0
                  refine And.intro (Wdo_142 hW) ?_
                  rw [pp_10 (x := 142) (by decide)]
                  refine And.intro (fun cz37 => ?_) (fun cz37 => ?_)
                  · -- 37 taken: ¬ D33r 0 9 = nI 5
                    obtain ⟨jr, ej⟩ := RX_n hX33 cz37; obtain ⟨p33r, pe33, ph33⟩ := rb_r (eX33.trans ej); obtain ⟨⟨a33r, q33r⟩, pf33, pg33⟩ := rb_r ph33; have vv33 := hv33 _ _ _ pe33 pf33; have pg33x : q33r = _ := Sum.inr.inj pg33; obtain ⟨p17r, pe17, ph17⟩ := rb_r (eX17.trans pe33); obtain ⟨⟨a17r, q17r⟩, pf17, pg17⟩ := rb_r ph17; have vv17 := hv17 _ _ _ pe17 pf17; have pg17x : q17r = _ := Sum.inr.inj pg17; obtain ⟨p12r, pe12, ph12⟩ := rb_r (eX12.trans pe17); obtain ⟨⟨a12r, q12r⟩, pf12, pg12⟩ := rb_r ph12; have vv12 := hv12 _ _ _ pe12 pf12; have pg12x : q12r = _ := Sum.inr.inj pg12; obtain ⟨p8r, pe8, ph8⟩ := rb_r (eX8.trans pe12); obtain ⟨⟨a8r, q8r⟩, pf8, pg8⟩ := rb_r ph8; have vv8 := hv8 _ _ _ pe8 pf8; have pg8x : q8r = _ := Sum.inr.inj pg8; have eb := eX5.trans pe8; obtain ⟨hb1, hb2, hb3⟩ := bgF_r eb
                    have hlt : nv (Λ 1 12) < 8 := by rcases Nat.lt_or_ge (nv (Λ 1 12)) 8 with z | z; exact z; exact absurd (congrArg nI (show nv (Λ 1 12) = 8 by have := hc12q.2; change _ ≤ 8 at this; omega)) hb1
                    have vw12 := vv12.2 (pG_0 pf12)
                    refine And.intro (Wdo_142 hW) (Exists.intro _ (And.intro hq4 ?_))
                    refine And.intro (NWo_0 hN) (Exists.intro _ (And.intro (NWr_0_38 hN) ?_))
                    refine And.intro (Wdo_142 hW) (Exists.intro _ (And.intro hq4 ?_))
                    refine And.intro (NWo_0 hN) ?_
                    rw [pp_20 (y := q) (by omega) (by decide)]
                    rw [(show E 0 14 = nI (nv (Λ 1 12)) from hL0.2.2.2.2.2.2.2.2.2.2.2.2.2.2.trans hc12q.1)]
                    refine And.intro (NWi_22 hN (vi rfl (by omega))) ?_
                    rw [nI_clamp (show (nv (Λ 1 12)) < 2 ^ 31 by omega)]
                    rw [pp_u2 (y := q) (f := 22) (by omega) (by decide)]
                    refine And.intro (Wdo_142 hW) (Exists.intro _ (And.intro hq4 ?_))
                    refine And.intro (NWo_0 hN) (Exists.intro _ (And.intro (NWr_0_39 hN) ?_))
                    refine And.intro (Wdo_142 hW) (Exists.intro _ (And.intro hq4 ?_))
                    refine And.intro (NWo_0 hN) ?_
                    rw [pp_20 (y := q) (by omega) (by decide)]
                    rw [ud_ne (D := E) (f := 22) (g := 0) (by decide)]
                    rw [(show E 0 14 = nI (nv (Λ 1 12)) from hL0.2.2.2.2.2.2.2.2.2.2.2.2.2.2.trans hc12q.1)]
                    refine And.intro (NWi_23 hN (vi rfl (by omega))) ?_
                    rw [nI_clamp (show (nv (Λ 1 12)) < 2 ^ 31 by omega)]
                    rw [pp_u2 (y := q) (f := 23) (by omega) (by decide)]
                    refine And.intro (Wdo_142 hW) (Exists.intro _ (And.intro hq4 ?_))
                    refine And.intro (NWo_0 hN) (Exists.intro _ (And.intro (NWr_0_40 hN) ?_))
                    refine And.intro (Wdo_142 hW) (Exists.intro _ (And.intro hq4 ?_))
                    refine And.intro (NWo_0 hN) ?_
                    rw [pp_20 (y := q) (by omega) (by decide)]
                    rw [ud_ne (D := (ud E 22 ((nv (Λ 1 12))) v8r)) (f := 23) (g := 0) (by decide)]
                    rw [ud_ne (D := E) (f := 22) (g := 0) (by decide)]
                    rw [(show E 0 14 = nI (nv (Λ 1 12)) from hL0.2.2.2.2.2.2.2.2.2.2.2.2.2.2.trans hc12q.1)]
                    refine And.intro (NWi_24 hN (vi rfl (by omega))) ?_
                    rw [nI_clamp (show (nv (Λ 1 12)) < 2 ^ 31 by omega)]
                    rw [pp_u2 (y := q) (f := 24) (by omega) (by decide)]
                    refine And.intro (Wdo_142 hW) (Exists.intro _ (And.intro hq4 ?_))
                    refine And.intro (NWo_0 hN) (Exists.intro _ (And.intro (NWr_0_41 hN) ?_))
                    refine And.intro (Wdo_142 hW) (Exists.intro _ (And.intro hq4 ?_))
                    refine And.intro (NWo_0 hN) ?_
                    rw [pp_20 (y := q) (by omega) (by decide)]
                    rw [ud_ne (D := (ud (ud E 22 ((nv (Λ 1 12))) v8r) 23 ((nv (Λ 1 12))) v12r)) (f := 24) (g := 0) (by decide)]
                    rw [ud_ne (D := (ud E 22 ((nv (Λ 1 12))) v8r)) (f := 23) (g := 0) (by decide)]
                    rw [ud_ne (D := E) (f := 22) (g := 0) (by decide)]
                    rw [(show E 0 14 = nI (nv (Λ 1 12)) from hL0.2.2.2.2.2.2.2.2.2.2.2.2.2.2.trans hc12q.1)]
                    refine And.intro (NWi_25 hN (vi rfl (by omega))) ?_
                    rw [nI_clamp (show (nv (Λ 1 12)) < 2 ^ 31 by omega)]
                    rw [show vp_nar .boolean (bi (wqX B n X17r (lN 25779))) = nI 0 from by rw [bi_f (bi_eq0.mp cz24)]; rfl]
                    rw [pp_u2 (y := q) (f := 25) (by omega) (by decide)]
                    refine And.intro (Wdo_142 hW) (Exists.intro _ (And.intro hq4 ?_))
                    refine And.intro rfl ?_
                    refine And.intro (NWo_0 hN) ?_
                    rw [pp_20 (y := q) (by omega) (by decide)]
                    rw [ud_ne (D := (ud (ud (ud E 22 ((nv (Λ 1 12))) v8r) 23 ((nv (Λ 1 12))) v12r) 24 ((nv (Λ 1 12))) v17r)) (f := 25) (g := 0) (by decide)]
                    rw [ud_ne (D := (ud (ud E 22 ((nv (Λ 1 12))) v8r) 23 ((nv (Λ 1 12))) v12r)) (f := 24) (g := 0) (by decide)]
                    rw [ud_ne (D := (ud E 22 ((nv (Λ 1 12))) v8r)) (f := 23) (g := 0) (by decide)]
                    rw [ud_ne (D := E) (f := 22) (g := 0) (by decide)]
                    rw [(show E 0 14 = nI (nv (Λ 1 12)) from hL0.2.2.2.2.2.2.2.2.2.2.2.2.2.2.trans hc12q.1)]
                    refine And.intro (NWo_0 hN) ?_
                    rw [pp_u20 (y := q) (by omega) (by decide)]
                    refine And.intro ⟨rfl, rfl, Nat.le_refl _, Nat.le_refl _⟩ ?_
                    have hS : rb (bgF (nI (nv (Λ 1 12))) (nI 8) (E 0 0) B n i) (fun i => sawL T Λ B n i) = .inr (T, ud (ud (ud (ud Λ 14 (nv (Λ 1 12) * 4) a8r) 14 (nv (Λ 1 12) * 4 + 1) a12r) 14 (nv (Λ 1 12) * 4 + 2) a17r) 14 (nv (Λ 1 12) * 4 + 3) a33r, jr) := by
                      simp only [pf33, pg33x, pf17, pg17x, pf12, pg12x, pf8, pg8x, eb, rb_a, rb_i, sawL]
                    rw [ej] at hX33
                    refine hQ _ _ _ _ (FY_t (FY_t (FY_t (FY_t (FY_t hy5 hy8) hy12) hy17) hy31) hy33) ?_
                    rw [hS]
                    subst vv33
                    rw [vv17]
                    rw [vw12]
                    rw [vv8]
                    rw [← hc12q.1]
                    have hb5 := nv_b1 hc12q.1 (by omega)
                    refine ⟨hX33, hNR, ⟨⟨hL0.1, hL0.2.1, hL0.2.2.1, hL0.2.2.2.1, hL0.2.2.2.2.1, hL0.2.2.2.2.2.1, hL0.2.2.2.2.2.2.1, hL0.2.2.2.2.2.2.2.1, hL0.2.2.2.2.2.2.2.2.1, hL0.2.2.2.2.2.2.2.2.2.1, hL0.2.2.2.2.2.2.2.2.2.2.1, hL0.2.2.2.2.2.2.2.2.2.2.2.1, hL0.2.2.2.2.2.2.2.2.2.2.2.2.1, hL0.2.2.2.2.2.2.2.2.2.2.2.2.2.1, (by first | rfl | exact congrArg (fun z => z + nI 1) hL0.2.2.2.2.2.2.2.2.2.2.2.2.2.2)⟩, hL1, hL2, hL3, hL4, hL5, hL6, hL7, hL8, hL9, hL10, hL11, fun v hv => ?_⟩⟩
                    have hv2 : v < nv (Λ 1 12) + 1 := by change v < nv (Λ 1 12 + nI 1) at hv; omega
                    by_cases e : v = nv (Λ 1 12)
                    · rw [e]
                      exact ⟨upd_e.trans cfq_0.symm, upd_e.trans cfq_1.symm, upd_e.trans cfq_2.symm, upd_e.trans cfq_3.symm⟩
                    · have h9 := hL12 v (by omega)
                      exact ⟨(upd_o e).trans (h9.1.trans (cfo_0 e).symm), (upd_o e).trans (h9.2.1.trans (cfo_1 e).symm), (upd_o e).trans (h9.2.2.1.trans (cfo_2 e).symm), (upd_o e).trans (h9.2.2.2.trans (cfo_3 e).symm)⟩
                  · -- 37 not: D33r 0 9 = nI 5
                    refine And.intro ⟨rfl, rfl, Nat.le_refl _, Nat.le_refl _⟩ ?_
                    obtain ⟨er, ee⟩ := RX_5 hX33 cz37
                    rw [ee] at hX33
                    subst eX33
                    subst eX17
                    subst eX12
                    subst eX8
                    subst eX5
                    refine hQ _ _ _ _ (FY_t (FY_t (FY_t (FY_t (FY_t hy5 hy8) hy12) hy17) hy31) hy33) (lnPt_l (Eq.trans ?_ ee) hX33)
                    simp only [rb_a, rb_i, rb_d, sawL]
