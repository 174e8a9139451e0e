theorem wsQ_c {f g : Nat → Int32} {x s nt : Nat} (he : ∀ i, i < 180 → f i = g i) (hx : x < 6) (hs : s < 5) (hn : nt ≤ 6) : wsQ f x s nt = wsQ g x s nt := by
  unfold wsQ
  exact fo_c (fun i hi y => by rw [he _ (by omega)])
theorem wo_q {m m8 : Mm} {a q nt n nvl : Nat} {T : NT} (hLQ : LQ (lam m a) (lam m q)) (hV : SV (mI m) 20 (mI m 145)) (hI : LRI T (lam m a)) (hn4 : mI m (a + 1) 4 = nI n) (hn6 : n ≤ 6) (hn10 : mI m (a + 1) 10 = nI nvl) (hv4 : nvl ≤ 4) (hnt : nt ≤ 6) (h158 : 158 ≤ q) (h8 : ∀ r, 139 ≤ r → r ≠ 142 → mI m8 r = mI m r) : ∀ k, k < nvl → ∀ g, g < n → woF (lam m a) (lam m 20) nt k g = if bi (mI m8 (q + 2) g = nI 3 ∨ bq (mI m8 145 0) (nI g)) = 0 then wsQ (mI m8 (q + 7)) g (nv (mI m8 (q + 1) (nv (mI m8 (q + 18) k)))) nt else nI 0 := fun k hk g hg => by
  have hk2 : k < nv (lam m a 1 10) := by rw [show lam m a 1 10 = nI nvl from hn10, nv_nI (by omega)]; exact hk
  have hg2 : g < nv (lam m a 1 4) := by rw [show lam m a 1 4 = nI n from hn4, nv_nI (by omega)]; exact hg
  rw [h8 (q + 2) (by omega) (by omega), h8 145 (by decide) (by decide), h8 (q + 7) (by omega) (by omega), h8 (q + 1) (by omega) (by omega), h8 (q + 18) (by omega) (by omega)]
  unfold woF slP
  have h1 : mI m (q + 18) k = lam m a 11 k := hLQ.2.2.2.2.2.2.2.2.2.2.1.1 k hk2
  obtain ⟨hh, hh24, eh⟩ := (hI.2.2.2.2.2.2.1 k hk2).1
  obtain ⟨s5, h5, es⟩ := hI.2.2.2.1 hh hh24
  have h2 : mI m (q + 1) hh = lam m a 2 hh := hLQ.2.2.1 hh hh24
  have h3 : mI m (q + 2) g = lam m a 3 g := (hLQ.2.2.2.1 g hg2).1
  have h4 : mI m 145 0 = lam m 20 0 1 := hV.1
  rw [h1, eh, nv_nI (by omega), h2, h3, h4, es, nv_nI (by omega), wsQ_c (f := mI m (q + 7)) (g := lam m a 7) hLQ.2.2.2.2.2.1 (by omega) h5 hnt]
theorem wo_r {Λ Ψ : Nat → Nat → Int32} {nt v g : Nat} (hnt : nt ≤ 6) : ∃ w, w ≤ 200 ∧ woF Λ Ψ nt v g = nI w := by
  unfold woF
  split
  · obtain ⟨w, h1, h2⟩ := ws_r (off := Λ 7) (g := g) (s := nv (Λ 2 (nv (Λ 11 v)))) nt hnt
    exact ⟨w, by omega, h2⟩
  · exact ⟨0, by decide, rfl⟩
theorem bf_c {r r2 wo : Nat → Int32} {nvl k n : Nat} (h : ∀ i, i < nvl → r i = r2 i) : bfQ r wo nvl k n = bfQ r2 wo nvl k n := by
  unfold bfQ
  refine fo_c (fun g hg b => ?_)
  unfold bfS
  rw [coF_c h, coF_c h]
theorem Rel_s7 {z : Nat} {m n : Mm} (hR : Rel z m) (h22 : n.2.2 = m.2.2) (hI : ∀ r, ¬ scr r → r ≠ 0 → r ≠ 142 → mI n r = mI m r) (h140 : mI m 139 4 = nI 1 → mI n 140 = mI m 140) (h0 : mI n 0 0 = nI 0) (h0k : ∀ k, k ≠ 0 → mI n 0 k = mI m 0 k) (h142 : ∀ k, k ≠ 0 → mI n 142 k = mI m 142 k) : Rel z (uI (uI n 142 1 (nI 0)) 142 2 (-nI 1)) := by
  have x0 : ∀ x, x ≠ 0 → x ≠ 1 → x ≠ 2 → mI (uI (uI n 142 1 (nI 0)) 142 2 (-nI 1)) 142 x = mI m 142 x := fun x g0 g1 g2 => by rw [uI_eq, upd_o g2, uI_eq, upd_o g1, h142 x g0]
  have y0 : ∀ r, r ≠ 142 → mI (uI (uI n 142 1 (nI 0)) 142 2 (-nI 1)) r = mI n r := fun r g => by rw [uI_ne g, uI_ne g]
  exact Rel_fin (x := nI 0) hR (by rw [uI_22, uI_22]; exact h22) (fun r g1 g2 g3 => (y0 r g3).trans (hI r g1 g2 g3)) (fun z9 => (y0 140 (by decide)).trans (h140 z9)) (by rw [y0 0 (by decide)]; exact h0) (by rw [y0 0 (by decide)]; exact h0k 1 (by decide)) (by rw [y0 0 (by decide)]; exact h0k 12 (by decide)) (by rw [uI_eq, upd_o (by decide), uI_eq, upd_e]) (by rw [uI_eq, upd_e]) (x0 14 (by decide) (by decide) (by decide)) (x0 6 (by decide) (by decide) (by decide)) (x0 21 (by decide) (by decide) (by decide)) (x0 22 (by decide) (by decide) (by decide)) (by decide)
theorem P_content {d : Nat} {m : Mm} {Q : Option Value → Mm → Prop} {z : Nat} {x : Int32} (hd : 16 ≤ d) (hR : Rel z m) (h : ∀ (r : Int32) m1, Wd m1.2.2 → (∀ Q2 : Option Value → Mm → Prop, (∀ m2, Rel z m2 → Q2 (some (.int r)) m2) → Cc d 0 0 306 [.ref 142, .int x] m1 Q2) → Q (some (.int r)) m1) : Cc d 0 0 150 [.ref 0, .int x] m Q := by
  obtain ⟨hW, hz, hS, a, b, hA, hX⟩ := id hR
  obtain ⟨hL, hLb, hab, ha, hb⟩ := RelA_L hW hA
  obtain ⟨n2r, hn2, bn2, ln2⟩ := RL_n (s := 2) (f := 5) hX.2.2.1 (by decide) (fun _ _ h => h.2.2.2.2.2.1)
  change n2r ≤ 6 at bn2
  obtain ⟨n4r, hn4, bn4, ln4⟩ := RL_n (s := 4) (f := 6) hX.2.2.1 (by decide) (fun _ _ h => h.2.2.2.2.2.2.1)
  change n4r ≤ 6 at bn4
  obtain ⟨n8r, hn8, bn8, ln8⟩ := RL_n (s := 8) (f := 10) hX.2.2.1 (by decide) (fun _ _ h => h.2.2.2.2.2.2.2.2.2.2.1)
  change n8r ≤ 8 at bn8
  obtain ⟨n10r, hn10, bn10, ln10⟩ := RL_n (s := 10) (f := 12) hX.2.2.1 (by decide) (fun _ _ h => h.2.2.2.2.2.2.2.2.2.2.2.2.1)
  change n10r ≤ 4 at bn10
  refine ent (n := 74) z150 (by decide) rfl (by decide) (Nat.le_of_ble_eq_true rfl) (fun sc => ?_)
  refine And.intro ⟨by omega, Nat.le_of_ble_eq_true rfl, Nat.le_refl _, Nat.le_refl _⟩ (And.intro (Wdo_0 hW) ?_)
  refine C186 (by omega) hW ha hL hn10 (by omega) ?_
  refine And.intro (fun cz3 => ?_) (fun cz3 => ?_)
  · -- 3 taken: ¬ bi (iR x n10r) = 0
    obtain ⟨v, hv, rfl⟩ := bi_ne0.mp cz3
    obtain ⟨q, hq1⟩ := RL_1 (s := 10) hX.2.2.1 (by decide) hn10 (show 0 < n10r by omega) (by omega)
    obtain ⟨hq, w, u, ha0, ha1, hq0, hq1w, hw6, hu4, hwu, hgr⟩ := RL_q hq1
    obtain ⟨h158, hqz, hN, h3, ⟨T, hI⟩, hst, hla, hLQ, hSR⟩ := hq1
    have hq6 : mI m q 6 = nI n4r := hLQ.1.2.2.2.2.2.2.1.trans hn4
    have hq5 : mI m q 5 = nI n2r := hLQ.1.2.2.2.2.2.1.trans hn2
    have n10s : nv (mI m (a + 1) 10) = n10r := by rw [hn10, nv_nI (by omega)]
    have hhoA : ∀ v, v < n10r → iR (mI m (a + 11) v) 24 := fun v hv => (hI.2.2.2.2.2.2.1 v (by rw [← n10s] at hv; exact hv)).1
    have hsa : ∀ v, v < n10r → iR (lam m 20 3 v) n4r := fun v hv => by
      have w9 := hSR.2.2.2 v (by rw [← n10s] at hv; exact hv)
      rw [show lam m a 1 4 = nI n4r from hn4, nv_nI (by omega)] at w9
      exact w9
    have hn4p : 0 < n4r := by
      rcases Nat.eq_zero_or_pos n4r with z9 | z9
      · refine absurd (Or.inr (Or.inr ?_)) hla
        show mI m (a + 1) 4 = 0
        rw [hn4, z9]; rfl
      · exact z9
    have hq12 : mI m q 12 = nI n10r := hLQ.1.2.2.2.2.2.2.2.2.2.2.2.2.1.trans hn10
    obtain ⟨g9, hg9, eg9⟩ := hsa v hv
    change mI m (20 + 3) v = nI g9 at eg9
    refine And.intro (Wdo_0 hW) (Exists.intro _ (And.intro (Wdr_0_9 hW) ?_))
    refine And.intro (Wdo_0 hW) (Exists.intro _ (And.intro ha ?_))
    refine And.intro (Wdo_0 hW) (Exists.intro _ (And.intro (Wdr_0_4 hW) ?_))
    refine And.intro ⟨by omega, Nat.le_of_ble_eq_true rfl, Nat.le_refl _, Nat.le_refl _⟩ (And.intro (Wdo_136 hW) ?_)
    have hpp := (bput_self (m := m) (x := 136) (n := 3)).symm
    generalize (fun f => mI m (136 + f)) = DD at hpp
    rw [hpp]
    refine D113 (n := n4r) (nt := n2r) (nvl := n10r) (by omega) hW hL (Wd_S hW) (by omega) (by omega) hn2 (by omega) hn4 (by omega) hn10 (by omega) hhoA hI.2.2.2.1 (fun D1 f1 f2 flk => ?_)
    clear hpp
    refine And.intro (Wdo_0 hW) (Exists.intro _ (And.intro (Wdr_0_9 hW) ?_))
    refine And.intro (Wdo_0 hW) (Exists.intro _ (And.intro (Wdr_0_4 hW) ?_))
    refine And.intro (SWo_0 (Wd_S hW)) (Exists.intro _ (And.intro (SWr_0_4 (Wd_S hW)) ?_))
    refine And.intro (SWi_3 (Wd_S hW) (vi rfl (by omega))) ?_
    rw [nI_clamp (show v < 2 ^ 31 by omega)]
    rw [bput_lo (m := m) (x := 136) (n := 3) (D := D1) (b := (20 + 3)) (by omega)]
    rw [eg9]
    refine And.intro ⟨by omega, Nat.le_of_ble_eq_true rfl, Nat.le_refl _, Nat.le_refl _⟩ (And.intro (Wdo_136 hW) ?_)
    refine D114 (k := v) (g := g9) hW f1 (by omega) f2 (by omega) (by omega) (by omega) ?_
    have po : ∀ r, ¬ (136 ≤ r ∧ r ≤ 138) → mI (bput m 136 3 D1) r = mI m r := fun r hr => by
      rcases Nat.lt_or_ge r 136 with z9 | z9
      · exact bput_lo (by omega)
      · exact bput_hi (by omega)
    have a22 : (bput m 136 3 D1).2.2 = m.2.2 := bput_22
    generalize bput m 136 3 D1 = m9 at po a22 ⊢
    have hW0 := hW
    have hW : Wd m9.2.2 := by rw [a22]; exact hW0
    have hak8 : ∀ r, 158 ≤ r → mI m9 r = mI m r := fun r hr => po r (by omega)
    have ln2 := LN_m ln2 a22 hak8
    have ln4 := LN_m ln4 a22 hak8
    have ln8 := LN_m ln8 a22 hak8
    have ln10 := LN_m ln10 a22 hak8
    have hq : va_rf (mR m9 142 3) = .ref q := by rw [show mR m9 = mR m from congrArg (fun w : WR => w.1) a22]; exact hq
    have hN : NW m9.2.2 q := by rw [a22]; exact hN
    refine And.intro ⟨by omega, Nat.le_of_ble_eq_true rfl, Nat.le_refl _, Nat.le_refl _⟩ (And.intro (Wdo_0 hW) ?_)
    refine C177 hW ?_
    refine And.intro ⟨rfl, trivial, Nat.le_refl _, Nat.le_refl _⟩ ?_
    refine h _ _ hW (fun Q2 h2 => ?_)
    refine ent (n := 58) z306 (by decide) rfl (by decide) (Nat.le_of_ble_eq_true rfl) (fun sc2 => ?_)
    refine And.intro (Wdo_142 hW) ?_
    refine And.intro ⟨by omega, Nat.le_of_ble_eq_true rfl, Nat.le_refl _, Nat.le_refl _⟩ (And.intro (Wdo_142 hW) ?_)
    refine C250 (m := (uI (uI m9 0 0 (nI 0)) 142 0 (nI 0))) (by omega) hW (LN_u (LN_u ln10 (by decide)) (by decide)) (by omega) ?_
    refine And.intro (fun cr6 => ?_) (fun cr6 => False.elim (absurd (bi_ne0.mp cz3) (bi_eq0.mp cr6)))
    refine And.intro ⟨by omega, Nat.le_of_ble_eq_true rfl, Nat.le_refl _, Nat.le_refl _⟩ (And.intro (Wdo_142 hW) ?_)
    have t22 : (uI (uI m9 0 0 (nI 0)) 142 0 (nI 0)).2.2 = m.2.2 := by rw [uI_22, uI_22]; exact a22
    have tI : ∀ r, ¬ (136 ≤ r ∧ r ≤ 138) → r ≠ 0 → r ≠ 142 → mI (uI (uI m9 0 0 (nI 0)) 142 0 (nI 0)) r = mI m r := fun r h1 h2 h3 => by rw [uI_ne h3, uI_ne h2, po r h1]
    have t0 : mI (uI (uI m9 0 0 (nI 0)) 142 0 (nI 0)) 0 0 = nI 0 := by rw [uI_ne (by decide), uI_eq, upd_e]
    have t0k : ∀ k, k ≠ 0 → mI (uI (uI m9 0 0 (nI 0)) 142 0 (nI 0)) 0 k = mI m 0 k := fun k hk => by rw [uI_ne (by decide), uI_eq, upd_o hk, po 0 (by decide)]
    have t142 : ∀ k, k ≠ 0 → mI (uI (uI m9 0 0 (nI 0)) 142 0 (nI 0)) 142 k = mI m 142 k := fun k hk => by rw [uI_eq, upd_o hk, uI_ne (by decide), po 142 (by decide)]
    generalize (uI (uI m9 0 0 (nI 0)) 142 0 (nI 0)) = m8 at t22 tI t0 t0k t142 ⊢
    have hW : Wd m8.2.2 := by rw [t22]; exact hW0
    have hN : NW m8.2.2 q := by rw [t22, ← a22]; exact hN
    have hq : va_rf (mR m8 142 3) = .ref q := by rw [show mR m8 = mR m9 from congrArg (fun w : WR => w.1) (t22.trans a22.symm)]; exact hq
    have hq6 : mI m8 q 6 = nI n4r := by rw [tI q (by omega) (by omega) (by omega)]; exact hq6
    have hq5 : mI m8 q 5 = nI n2r := by rw [tI q (by omega) (by omega) (by omega)]; exact hq5
    have hq12 : mI m8 q 12 = nI n10r := by rw [tI q (by omega) (by omega) (by omega)]; exact hq12
    have hho : ∀ v, v < n10r → iR (mI m8 (q + 18) v) 24 := fun v hv => by
      rw [tI (q + 18) (by omega) (by omega) (by omega)]
      rw [show mI m (q + 18) v = mI m (a + 11) v from hLQ.2.2.2.2.2.2.2.2.2.2.1.1 v (show v < nv (mI m (a + 1) 10) by rw [n10s]; exact hv)]
      exact hhoA v hv
    have hce : ∀ c, c < 24 → iR (mI m8 (q + 1) c) 5 := fun c hc => by
      rw [tI (q + 1) (by omega) (by omega) (by omega)]
      rw [show mI m (q + 1) c = mI m (a + 2) c from hLQ.2.2.1 c hc]
      exact hI.2.2.2.1 c hc
    have hwo := wo_q (m8 := m8) (nt := n2r) hLQ hX.2.1 hI hn4 (by omega) hn10 (by omega) (by omega) h158 (fun r h1 h2 => tI r (by omega) (by omega) h2)
    have hwo2 : ∀ k, k < n10r → ∀ g, g < n4r → D1 2 (k * 6 + g) = _ := fun k hk g hg => ((flk k hk).2 g hg).trans (hwo k hk g hg)
    have hwr : ∀ k, k < n10r → ∀ g, g < n4r → ∃ w, w ≤ 200 ∧ D1 2 (k * 6 + g) = nI w := fun k hk g hg => by
      rw [(flk k hk).2 g hg]
      exact wo_r (by omega)
    have hpp := (bput_self (m := m8) (x := 155) (n := 1)).symm
    generalize (fun f => mI m8 (155 + f)) = DD at hpp
    rw [hpp]
    refine D302 hW (fun DS hDS => ?_)
    clear hpp
    have hrow : ∀ i, i < n10r → DS 0 i = D1 1 i := fun i hi => by
      rw [hDS i (by omega), tI 145 (by decide) (by decide) (by decide), hX.2.1.2.2.2.1 i (by omega), (flk i hi).1]
      rfl
    have hro : ∀ v, v < n10r → iR (DS 0 v) n4r := fun v hv => by rw [hrow v hv, (flk v hv).1]; exact hsa v hv
    refine And.intro ⟨by omega, Nat.le_of_ble_eq_true rfl, Nat.le_refl _, Nat.le_refl _⟩ (And.intro (Wdo_142 hW) ?_)
    refine D303 (k := v) (g := g9) (wo := D1 2) (by omega) hW hN h158 hq hq6 (by omega) hq5 (by omega) hq12 (by omega) hho hce hwo2 hv hg9 ((hrow v hv).trans ((flk v hv).1.trans eg9)) ?_
    rw [coF_c (r := DS 0) (r' := D1 1) hrow]
    have s22 : (bput m8 155 1 DS).2.2 = m8.2.2 := bput_22
    have sI : ∀ r, r ≠ 155 → mI (bput m8 155 1 DS) r = mI m8 r := fun r hr => by
      rcases Nat.lt_or_ge r 155 with z9 | z9
      · exact bput_lo (by omega)
      · exact bput_hi (by omega)
    generalize bput m8 155 1 DS = m7 at s22 sI ⊢
    have hW : Wd m7.2.2 := by rw [s22]; exact hW
    refine And.intro ⟨by omega, Nat.le_of_ble_eq_true rfl, Nat.le_refl _, Nat.le_refl _⟩ (And.intro (Wdo_142 hW) ?_)
    refine C202 (m := m7) hW ?_
    refine And.intro ⟨rfl, trivial, Nat.le_refl _, Nat.le_refl _⟩ ?_
    exact h2 _ (Rel_s7 hR (s22.trans t22) (fun r g1 g2 g3 => (sI r (fun z9 => g1 (by unfold scr; omega))).trans (tI r (fun z9 => g1 (by unfold scr; omega)) g2 g3)) (fun _ => (sI 140 (by decide)).trans (tI 140 (by decide) (by decide) (by decide))) (by rw [sI 0 (by decide)]; exact t0) (fun k hk => by rw [sI 0 (by decide)]; exact t0k k hk) (fun k hk => by rw [sI 142 (by decide)]; exact t142 k hk))
  · -- 3 not: bi (iR x n10r) = 0
    refine And.intro ⟨by omega, Nat.le_of_ble_eq_true rfl, Nat.le_refl _, Nat.le_refl _⟩ (And.intro (Wdo_0 hW) ?_)
    refine C176 hW ?_
    refine And.intro ⟨rfl, trivial, Nat.le_refl _, Nat.le_refl _⟩ ?_
    refine h _ _ hW (fun Q2 h2 => ?_)
    refine ent (n := 58) z306 (by decide) rfl (by decide) (Nat.le_of_ble_eq_true rfl) (fun sc2 => ?_)
    refine And.intro (Wdo_142 hW) ?_
    refine And.intro ⟨by omega, Nat.le_of_ble_eq_true rfl, Nat.le_refl _, Nat.le_refl _⟩ (And.intro (Wdo_142 hW) ?_)
    refine C250 (m := (uI (uI m 0 0 (nI 1)) 142 0 (nI 0))) (by omega) hW (LN_u (LN_u ln10 (by decide)) (by decide)) (by omega) ?_
    refine And.intro (fun cr6 => False.elim (absurd (bi_ne0.mp cr6) (bi_eq0.mp cz3))) (fun cr6 => ?_)
    refine And.intro ⟨by omega, Nat.le_of_ble_eq_true rfl, Nat.le_refl _, Nat.le_refl _⟩ (And.intro (Wdo_142 hW) ?_)
    refine C200 (m := (uI (uI m 0 0 (nI 1)) 142 0 (nI 0))) hW ?_
    refine And.intro ⟨rfl, trivial, Nat.le_refl _, Nat.le_refl _⟩ ?_
    exact h2 _ (Rel_ans hR (by decide))
theorem P_saint {d : Nat} {m : Mm} {Q : Option Value → Mm → Prop} {z : Nat} {x : Int32} (hd : 16 ≤ d) (hR : Rel z m) (h : ∀ (r : Int32) m1, Wd m1.2.2 → (∀ Q2 : Option Value → Mm → Prop, (∀ m2, Rel z m2 → Q2 (some (.int r)) m2) → Cc d 0 0 307 [.ref 142, .int x] m1 Q2) → Q (some (.int r)) m1) : Cc d 0 0 151 [.ref 0, .int x] m Q := by
  obtain ⟨hW, hz, hS, a, b, hA, hX⟩ := id hR
  obtain ⟨hL, hLb, hab, ha, hb⟩ := RelA_L hW hA
  obtain ⟨n2r, hn2, bn2, ln2⟩ := RL_n (s := 2) (f := 5) hX.2.2.1 (by decide) (fun _ _ h => h.2.2.2.2.2.1)
  change n2r ≤ 6 at bn2
  obtain ⟨n4r, hn4, bn4, ln4⟩ := RL_n (s := 4) (f := 6) hX.2.2.1 (by decide) (fun _ _ h => h.2.2.2.2.2.2.1)
  change n4r ≤ 6 at bn4
  obtain ⟨n8r, hn8, bn8, ln8⟩ := RL_n (s := 8) (f := 10) hX.2.2.1 (by decide) (fun _ _ h => h.2.2.2.2.2.2.2.2.2.2.1)
  change n8r ≤ 8 at bn8
  obtain ⟨n10r, hn10, bn10, ln10⟩ := RL_n (s := 10) (f := 12) hX.2.2.1 (by decide) (fun _ _ h => h.2.2.2.2.2.2.2.2.2.2.2.2.1)
  change n10r ≤ 4 at bn10
  refine ent (n := 64) z151 (by decide) rfl (by decide) (Nat.le_of_ble_eq_true rfl) (fun sc => ?_)
  refine And.intro ⟨by omega, Nat.le_of_ble_eq_true rfl, Nat.le_refl _, Nat.le_refl _⟩ (And.intro (Wdo_0 hW) ?_)
  refine C186 (by omega) hW ha hL hn10 (by omega) ?_
  refine And.intro (fun cz3 => ?_) (fun cz3 => ?_)
  · -- 3 taken: ¬ bi (iR x n10r) = 0
    obtain ⟨v, hv, rfl⟩ := bi_ne0.mp cz3
    obtain ⟨q, hq1⟩ := RL_1 (s := 10) hX.2.2.1 (by decide) hn10 (show 0 < n10r by omega) (by omega)
    obtain ⟨hq, w, u, ha0, ha1, hq0, hq1w, hw6, hu4, hwu, hgr⟩ := RL_q hq1
    obtain ⟨h158, hqz, hN, h3, ⟨T, hI⟩, hst, hla, hLQ, hSR⟩ := hq1
    have hq6 : mI m q 6 = nI n4r := hLQ.1.2.2.2.2.2.2.1.trans hn4
    have hq5 : mI m q 5 = nI n2r := hLQ.1.2.2.2.2.2.1.trans hn2
    have n10s : nv (mI m (a + 1) 10) = n10r := by rw [hn10, nv_nI (by omega)]
    have hhoA : ∀ v, v < n10r → iR (mI m (a + 11) v) 24 := fun v hv => (hI.2.2.2.2.2.2.1 v (by rw [← n10s] at hv; exact hv)).1
    have hsa : ∀ v, v < n10r → iR (lam m 20 3 v) n4r := fun v hv => by
      have w9 := hSR.2.2.2 v (by rw [← n10s] at hv; exact hv)
      rw [show lam m a 1 4 = nI n4r from hn4, nv_nI (by omega)] at w9
      exact w9
    have hn4p : 0 < n4r := by
      rcases Nat.eq_zero_or_pos n4r with z9 | z9
      · refine absurd (Or.inr (Or.inr ?_)) hla
        show mI m (a + 1) 4 = 0
        rw [hn4, z9]; rfl
      · exact z9
    have hq12 : mI m q 12 = nI n10r := hLQ.1.2.2.2.2.2.2.2.2.2.2.2.2.1.trans hn10
    refine And.intro (Wdo_0 hW) (Exists.intro _ (And.intro (Wdr_0_9 hW) ?_))
    refine And.intro (Wdo_0 hW) (Exists.intro _ (And.intro ha ?_))
    refine And.intro (Wdo_0 hW) (Exists.intro _ (And.intro (Wdr_0_4 hW) ?_))
    refine And.intro ⟨by omega, Nat.le_of_ble_eq_true rfl, Nat.le_refl _, Nat.le_refl _⟩ (And.intro (Wdo_136 hW) ?_)
    have hpp := (bput_self (m := m) (x := 136) (n := 3)).symm
    generalize (fun f => mI m (136 + f)) = DD at hpp
    rw [hpp]
    refine D113 (n := n4r) (nt := n2r) (nvl := n10r) (by omega) hW hL (Wd_S hW) (by omega) (by omega) hn2 (by omega) hn4 (by omega) hn10 (by omega) hhoA hI.2.2.2.1 (fun D1 f1 f2 flk => ?_)
    clear hpp
    refine And.intro (Wdo_0 hW) (Exists.intro _ (And.intro (Wdr_0_9 hW) ?_))
    refine And.intro ⟨by omega, Nat.le_of_ble_eq_true rfl, Nat.le_refl _, Nat.le_refl _⟩ (And.intro (Wdo_136 hW) ?_)
    refine D115 (k := v) hW f1 (by omega) f2 (by omega) (by omega) (by omega) hn4p ?_
    have po : ∀ r, ¬ (136 ≤ r ∧ r ≤ 138) → mI (bput m 136 3 D1) r = mI m r := fun r hr => by
      rcases Nat.lt_or_ge r 136 with z9 | z9
      · exact bput_lo (by omega)
      · exact bput_hi (by omega)
    have a22 : (bput m 136 3 D1).2.2 = m.2.2 := bput_22
    generalize bput m 136 3 D1 = m9 at po a22 ⊢
    have hW0 := hW
    have hW : Wd m9.2.2 := by rw [a22]; exact hW0
    have hak8 : ∀ r, 158 ≤ r → mI m9 r = mI m r := fun r hr => po r (by omega)
    have ln2 := LN_m ln2 a22 hak8
    have ln4 := LN_m ln4 a22 hak8
    have ln8 := LN_m ln8 a22 hak8
    have ln10 := LN_m ln10 a22 hak8
    have hq : va_rf (mR m9 142 3) = .ref q := by rw [show mR m9 = mR m from congrArg (fun w : WR => w.1) a22]; exact hq
    have hN : NW m9.2.2 q := by rw [a22]; exact hN
    refine And.intro ⟨by omega, Nat.le_of_ble_eq_true rfl, Nat.le_refl _, Nat.le_refl _⟩ (And.intro (Wdo_0 hW) ?_)
    refine C177 hW ?_
    refine And.intro ⟨rfl, trivial, Nat.le_refl _, Nat.le_refl _⟩ ?_
    refine h _ _ hW (fun Q2 h2 => ?_)
    refine ent (n := 58) z307 (by decide) rfl (by decide) (Nat.le_of_ble_eq_true rfl) (fun sc2 => ?_)
    refine And.intro (Wdo_142 hW) ?_
    refine And.intro ⟨by omega, Nat.le_of_ble_eq_true rfl, Nat.le_refl _, Nat.le_refl _⟩ (And.intro (Wdo_142 hW) ?_)
    refine C250 (m := (uI (uI m9 0 0 (nI 0)) 142 0 (nI 0))) (by omega) hW (LN_u (LN_u ln10 (by decide)) (by decide)) (by omega) ?_
    refine And.intro (fun cr6 => ?_) (fun cr6 => False.elim (absurd (bi_ne0.mp cz3) (bi_eq0.mp cr6)))
    refine And.intro ⟨by omega, Nat.le_of_ble_eq_true rfl, Nat.le_refl _, Nat.le_refl _⟩ (And.intro (Wdo_142 hW) ?_)
    have t22 : (uI (uI m9 0 0 (nI 0)) 142 0 (nI 0)).2.2 = m.2.2 := by rw [uI_22, uI_22]; exact a22
    have tI : ∀ r, ¬ (136 ≤ r ∧ r ≤ 138) → r ≠ 0 → r ≠ 142 → mI (uI (uI m9 0 0 (nI 0)) 142 0 (nI 0)) r = mI m r := fun r h1 h2 h3 => by rw [uI_ne h3, uI_ne h2, po r h1]
    have t0 : mI (uI (uI m9 0 0 (nI 0)) 142 0 (nI 0)) 0 0 = nI 0 := by rw [uI_ne (by decide), uI_eq, upd_e]
    have t0k : ∀ k, k ≠ 0 → mI (uI (uI m9 0 0 (nI 0)) 142 0 (nI 0)) 0 k = mI m 0 k := fun k hk => by rw [uI_ne (by decide), uI_eq, upd_o hk, po 0 (by decide)]
    have t142 : ∀ k, k ≠ 0 → mI (uI (uI m9 0 0 (nI 0)) 142 0 (nI 0)) 142 k = mI m 142 k := fun k hk => by rw [uI_eq, upd_o hk, uI_ne (by decide), po 142 (by decide)]
    generalize (uI (uI m9 0 0 (nI 0)) 142 0 (nI 0)) = m8 at t22 tI t0 t0k t142 ⊢
    have hW : Wd m8.2.2 := by rw [t22]; exact hW0
    have hN : NW m8.2.2 q := by rw [t22, ← a22]; exact hN
    have hq : va_rf (mR m8 142 3) = .ref q := by rw [show mR m8 = mR m9 from congrArg (fun w : WR => w.1) (t22.trans a22.symm)]; exact hq
    have hq6 : mI m8 q 6 = nI n4r := by rw [tI q (by omega) (by omega) (by omega)]; exact hq6
    have hq5 : mI m8 q 5 = nI n2r := by rw [tI q (by omega) (by omega) (by omega)]; exact hq5
    have hq12 : mI m8 q 12 = nI n10r := by rw [tI q (by omega) (by omega) (by omega)]; exact hq12
    have hho : ∀ v, v < n10r → iR (mI m8 (q + 18) v) 24 := fun v hv => by
      rw [tI (q + 18) (by omega) (by omega) (by omega)]
      rw [show mI m (q + 18) v = mI m (a + 11) v from hLQ.2.2.2.2.2.2.2.2.2.2.1.1 v (show v < nv (mI m (a + 1) 10) by rw [n10s]; exact hv)]
      exact hhoA v hv
    have hce : ∀ c, c < 24 → iR (mI m8 (q + 1) c) 5 := fun c hc => by
      rw [tI (q + 1) (by omega) (by omega) (by omega)]
      rw [show mI m (q + 1) c = mI m (a + 2) c from hLQ.2.2.1 c hc]
      exact hI.2.2.2.1 c hc
    have hwo := wo_q (m8 := m8) (nt := n2r) hLQ hX.2.1 hI hn4 (by omega) hn10 (by omega) (by omega) h158 (fun r h1 h2 => tI r (by omega) (by omega) h2)
    have hwo2 : ∀ k, k < n10r → ∀ g, g < n4r → D1 2 (k * 6 + g) = _ := fun k hk g hg => ((flk k hk).2 g hg).trans (hwo k hk g hg)
    have hwr : ∀ k, k < n10r → ∀ g, g < n4r → ∃ w, w ≤ 200 ∧ D1 2 (k * 6 + g) = nI w := fun k hk g hg => by
      rw [(flk k hk).2 g hg]
      exact wo_r (by omega)
    have hpp := (bput_self (m := m8) (x := 155) (n := 1)).symm
    generalize (fun f => mI m8 (155 + f)) = DD at hpp
    rw [hpp]
    refine D302 hW (fun DS hDS => ?_)
    clear hpp
    have hrow : ∀ i, i < n10r → DS 0 i = D1 1 i := fun i hi => by
      rw [hDS i (by omega), tI 145 (by decide) (by decide) (by decide), hX.2.1.2.2.2.1 i (by omega), (flk i hi).1]
      rfl
    have hro : ∀ v, v < n10r → iR (DS 0 v) n4r := fun v hv => by rw [hrow v hv, (flk v hv).1]; exact hsa v hv
    refine And.intro ⟨by omega, Nat.le_of_ble_eq_true rfl, Nat.le_refl _, Nat.le_refl _⟩ (And.intro (Wdo_142 hW) ?_)
    refine D304 (k := v) (R := DS 0) (wo := D1 2) (by omega) hW hN h158 hq hq6 (by omega) hq5 (by omega) hq12 (by omega) hho hce hwo2 hwr hv (fun D2 ez2 => ?_) hn4p rfl
    rw [bf_c (r := DS 0) (r2 := D1 1) hrow]
    have s22 : (bput m8 155 1 D2).2.2 = m8.2.2 := bput_22
    have sI : ∀ r, r ≠ 155 → mI (bput m8 155 1 D2) r = mI m8 r := fun r hr => by
      rcases Nat.lt_or_ge r 155 with z9 | z9
      · exact bput_lo (by omega)
      · exact bput_hi (by omega)
    generalize bput m8 155 1 D2 = m7 at s22 sI ⊢
    have hW : Wd m7.2.2 := by rw [s22]; exact hW
    refine And.intro ⟨by omega, Nat.le_of_ble_eq_true rfl, Nat.le_refl _, Nat.le_refl _⟩ (And.intro (Wdo_142 hW) ?_)
    refine C202 (m := m7) hW ?_
    refine And.intro ⟨rfl, trivial, Nat.le_refl _, Nat.le_refl _⟩ ?_
    exact h2 _ (Rel_s7 hR (s22.trans t22) (fun r g1 g2 g3 => (sI r (fun z9 => g1 (by unfold scr; omega))).trans (tI r (fun z9 => g1 (by unfold scr; omega)) g2 g3)) (fun _ => (sI 140 (by decide)).trans (tI 140 (by decide) (by decide) (by decide))) (by rw [sI 0 (by decide)]; exact t0) (fun k hk => by rw [sI 0 (by decide)]; exact t0k k hk) (fun k hk => by rw [sI 142 (by decide)]; exact t142 k hk))
  · -- 3 not: bi (iR x n10r) = 0
    refine And.intro ⟨by omega, Nat.le_of_ble_eq_true rfl, Nat.le_refl _, Nat.le_refl _⟩ (And.intro (Wdo_0 hW) ?_)
    refine C176 hW ?_
    refine And.intro ⟨rfl, trivial, Nat.le_refl _, Nat.le_refl _⟩ ?_
    refine h _ _ hW (fun Q2 h2 => ?_)
    refine ent (n := 58) z307 (by decide) rfl (by decide) (Nat.le_of_ble_eq_true rfl) (fun sc2 => ?_)
    refine And.intro (Wdo_142 hW) ?_
    refine And.intro ⟨by omega, Nat.le_of_ble_eq_true rfl, Nat.le_refl _, Nat.le_refl _⟩ (And.intro (Wdo_142 hW) ?_)
    refine C250 (m := (uI (uI m 0 0 (nI 1)) 142 0 (nI 0))) (by omega) hW (LN_u (LN_u ln10 (by decide)) (by decide)) (by omega) ?_
    refine And.intro (fun cr6 => False.elim (absurd (bi_ne0.mp cr6) (bi_eq0.mp cz3))) (fun cr6 => ?_)
    refine And.intro ⟨by omega, Nat.le_of_ble_eq_true rfl, Nat.le_refl _, Nat.le_refl _⟩ (And.intro (Wdo_142 hW) ?_)
    refine C200 (m := (uI (uI m 0 0 (nI 1)) 142 0 (nI 0))) hW ?_
    refine And.intro ⟨rfl, trivial, Nat.le_refl _, Nat.le_refl _⟩ ?_
    exact h2 _ (Rel_ans hR (by decide))
theorem P_rest {d : Nat} {m : Mm} {Q : Option Value → Mm → Prop} {z : Nat} (hd : 16 ≤ d) (hR : Rel z m) (h : ∀ (r : Int32) m1, Wd m1.2.2 → (∀ Q2 : Option Value → Mm → Prop, (∀ m2, Rel z m2 → Q2 (some (.int r)) m2) → Cc d 0 0 308 [.ref 142] m1 Q2) → Q (some (.int r)) m1) : Cc d 0 0 152 [.ref 0] m Q := by
  obtain ⟨hW, hz, hS, a, b, hA, hX⟩ := id hR
  obtain ⟨hL, hLb, hab, ha, hb⟩ := RelA_L hW hA
  obtain ⟨n2r, hn2, bn2, ln2⟩ := RL_n (s := 2) (f := 5) hX.2.2.1 (by decide) (fun _ _ h => h.2.2.2.2.2.1)
  change n2r ≤ 6 at bn2
  obtain ⟨n4r, hn4, bn4, ln4⟩ := RL_n (s := 4) (f := 6) hX.2.2.1 (by decide) (fun _ _ h => h.2.2.2.2.2.2.1)
  change n4r ≤ 6 at bn4
  obtain ⟨n8r, hn8, bn8, ln8⟩ := RL_n (s := 8) (f := 10) hX.2.2.1 (by decide) (fun _ _ h => h.2.2.2.2.2.2.2.2.2.2.1)
  change n8r ≤ 8 at bn8
  obtain ⟨n10r, hn10, bn10, ln10⟩ := RL_n (s := 10) (f := 12) hX.2.2.1 (by decide) (fun _ _ h => h.2.2.2.2.2.2.2.2.2.2.2.2.1)
  change n10r ≤ 4 at bn10
  rcases RL_st hX.2.2.1 with ⟨hL0, hst0⟩ | ⟨q, hq1, hst0⟩
  · skip
    refine ent (n := 64) z152 (by decide) rfl (by decide) (Nat.le_of_ble_eq_true rfl) (fun sc => ?_)
    refine And.intro (Wdo_0 hW) (Exists.intro _ (And.intro ha ?_))
    refine And.intro ⟨by omega, Nat.le_of_ble_eq_true rfl, Nat.le_refl _, Nat.le_refl _⟩ (And.intro (LWo_0 hL) ?_)
    refine C21 hL ?_
    refine And.intro (fun cz3 => False.elim (absurd (bi_ne0.mp cz3) (hst0))) (fun cz3 => ?_)
    refine And.intro ⟨by omega, Nat.le_of_ble_eq_true rfl, Nat.le_refl _, Nat.le_refl _⟩ (And.intro (Wdo_0 hW) ?_)
    refine C176 hW ?_
    refine And.intro ⟨rfl, trivial, Nat.le_refl _, Nat.le_refl _⟩ ?_
    refine h _ _ hW (fun Q2 h2 => ?_)
    refine ent (n := 62) z308 (by decide) rfl (by decide) (Nat.le_of_ble_eq_true rfl) (fun sc2 => ?_)
    refine And.intro (Wdo_142 hW) ?_
    refine And.intro (Wdo_142 hW) (Exists.intro _ (And.intro (show va_rf (mR m 142 3) = .null by rw [hL0.1]; rfl) ?_))
    refine And.intro ⟨by omega, Nat.le_of_ble_eq_true rfl, Nat.le_refl _, Nat.le_refl _⟩ (And.intro (Wdo_142 hW) ?_)
    refine C200 (m := (uI (uI m 0 0 (nI 1)) 142 0 (nI 0))) hW ?_
    refine And.intro ⟨rfl, trivial, Nat.le_refl _, Nat.le_refl _⟩ ?_
    exact h2 _ (Rel_ans hR (by decide))
  · skip
    obtain ⟨hq, w, u, ha0, ha1, hq0, hq1w, hw6, hu4, hwu, hgr⟩ := RL_q hq1
    obtain ⟨h158, hqz, hN, h3, ⟨T, hI⟩, hst, hla, hLQ, hSR⟩ := hq1
    have hq6 : mI m q 6 = nI n4r := hLQ.1.2.2.2.2.2.2.1.trans hn4
    have hq5 : mI m q 5 = nI n2r := hLQ.1.2.2.2.2.2.1.trans hn2
    have n10s : nv (mI m (a + 1) 10) = n10r := by rw [hn10, nv_nI (by omega)]
    have hhoA : ∀ v, v < n10r → iR (mI m (a + 11) v) 24 := fun v hv => (hI.2.2.2.2.2.2.1 v (by rw [← n10s] at hv; exact hv)).1
    have hsa : ∀ v, v < n10r → iR (lam m 20 3 v) n4r := fun v hv => by
      have w9 := hSR.2.2.2 v (by rw [← n10s] at hv; exact hv)
      rw [show lam m a 1 4 = nI n4r from hn4, nv_nI (by omega)] at w9
      exact w9
    have hn4p : 0 < n4r := by
      rcases Nat.eq_zero_or_pos n4r with z9 | z9
      · refine absurd (Or.inr (Or.inr ?_)) hla
        show mI m (a + 1) 4 = 0
        rw [hn4, z9]; rfl
      · exact z9
    have hq12 : mI m q 12 = nI n10r := hLQ.1.2.2.2.2.2.2.2.2.2.2.2.2.1.trans hn10
    refine ent (n := 64) z152 (by decide) rfl (by decide) (Nat.le_of_ble_eq_true rfl) (fun sc => ?_)
    refine And.intro (Wdo_0 hW) (Exists.intro _ (And.intro ha ?_))
    refine And.intro ⟨by omega, Nat.le_of_ble_eq_true rfl, Nat.le_refl _, Nat.le_refl _⟩ (And.intro (LWo_0 hL) ?_)
    refine C21 hL ?_
    refine And.intro (fun cz3 => ?_) (fun cz3 => False.elim (absurd (hst0) (bi_eq0.mp cz3)))
    refine And.intro (Wdo_0 hW) (Exists.intro _ (And.intro (Wdr_0_9 hW) ?_))
    refine And.intro (Wdo_0 hW) (Exists.intro _ (And.intro ha ?_))
    refine And.intro (Wdo_0 hW) (Exists.intro _ (And.intro (Wdr_0_4 hW) ?_))
    refine And.intro ⟨by omega, Nat.le_of_ble_eq_true rfl, Nat.le_refl _, Nat.le_refl _⟩ (And.intro (Wdo_136 hW) ?_)
    have hpp := (bput_self (m := m) (x := 136) (n := 3)).symm
    generalize (fun f => mI m (136 + f)) = DD at hpp
    rw [hpp]
    refine D113 (n := n4r) (nt := n2r) (nvl := n10r) (by omega) hW hL (Wd_S hW) (by omega) (by omega) hn2 (by omega) hn4 (by omega) hn10 (by omega) hhoA hI.2.2.2.1 (fun D1 f1 f2 flk => ?_)
    clear hpp
    refine And.intro (Wdo_0 hW) (Exists.intro _ (And.intro (Wdr_0_9 hW) ?_))
    refine And.intro ⟨by omega, Nat.le_of_ble_eq_true rfl, Nat.le_refl _, Nat.le_refl _⟩ (And.intro (Wdo_136 hW) ?_)
    refine D116 (nvl := n10r) (n := n4r) hW f1 (by omega) f2 (by omega) (by omega) (fun v hv => by rw [(flk v hv).1]; exact iR_m (hsa v hv) (by omega)) ?_
    have po : ∀ r, ¬ (136 ≤ r ∧ r ≤ 138) → mI (bput m 136 3 D1) r = mI m r := fun r hr => by
      rcases Nat.lt_or_ge r 136 with z9 | z9
      · exact bput_lo (by omega)
      · exact bput_hi (by omega)
    have a22 : (bput m 136 3 D1).2.2 = m.2.2 := bput_22
    generalize bput m 136 3 D1 = m9 at po a22 ⊢
    have hW0 := hW
    have hW : Wd m9.2.2 := by rw [a22]; exact hW0
    have hak8 : ∀ r, 158 ≤ r → mI m9 r = mI m r := fun r hr => po r (by omega)
    have ln2 := LN_m ln2 a22 hak8
    have ln4 := LN_m ln4 a22 hak8
    have ln8 := LN_m ln8 a22 hak8
    have ln10 := LN_m ln10 a22 hak8
    have hq : va_rf (mR m9 142 3) = .ref q := by rw [show mR m9 = mR m from congrArg (fun w : WR => w.1) a22]; exact hq
    have hN : NW m9.2.2 q := by rw [a22]; exact hN
    refine And.intro ⟨by omega, Nat.le_of_ble_eq_true rfl, Nat.le_refl _, Nat.le_refl _⟩ ?_
    refine C180 ?_
    refine And.intro ⟨by omega, Nat.le_of_ble_eq_true rfl, Nat.le_refl _, Nat.le_refl _⟩ (And.intro (Wdo_0 hW) ?_)
    refine C177 hW ?_
    refine And.intro ⟨rfl, trivial, Nat.le_refl _, Nat.le_refl _⟩ ?_
    refine h _ _ hW (fun Q2 h2 => ?_)
    refine ent (n := 62) z308 (by decide) rfl (by decide) (Nat.le_of_ble_eq_true rfl) (fun sc2 => ?_)
    refine And.intro (Wdo_142 hW) ?_
    refine And.intro (Wdo_142 hW) (Exists.intro _ (And.intro hq ?_))
    refine And.intro ⟨by omega, Nat.le_of_ble_eq_true rfl, Nat.le_refl _, Nat.le_refl _⟩ (And.intro (Wdo_142 hW) ?_)
    have t22 : (uI (uI m9 0 0 (nI 0)) 142 0 (nI 0)).2.2 = m.2.2 := by rw [uI_22, uI_22]; exact a22
    have tI : ∀ r, ¬ (136 ≤ r ∧ r ≤ 138) → r ≠ 0 → r ≠ 142 → mI (uI (uI m9 0 0 (nI 0)) 142 0 (nI 0)) r = mI m r := fun r h1 h2 h3 => by rw [uI_ne h3, uI_ne h2, po r h1]
    have t0 : mI (uI (uI m9 0 0 (nI 0)) 142 0 (nI 0)) 0 0 = nI 0 := by rw [uI_ne (by decide), uI_eq, upd_e]
    have t0k : ∀ k, k ≠ 0 → mI (uI (uI m9 0 0 (nI 0)) 142 0 (nI 0)) 0 k = mI m 0 k := fun k hk => by rw [uI_ne (by decide), uI_eq, upd_o hk, po 0 (by decide)]
    have t142 : ∀ k, k ≠ 0 → mI (uI (uI m9 0 0 (nI 0)) 142 0 (nI 0)) 142 k = mI m 142 k := fun k hk => by rw [uI_eq, upd_o hk, uI_ne (by decide), po 142 (by decide)]
    generalize (uI (uI m9 0 0 (nI 0)) 142 0 (nI 0)) = m8 at t22 tI t0 t0k t142 ⊢
    have hW : Wd m8.2.2 := by rw [t22]; exact hW0
    have hN : NW m8.2.2 q := by rw [t22, ← a22]; exact hN
    have hq : va_rf (mR m8 142 3) = .ref q := by rw [show mR m8 = mR m9 from congrArg (fun w : WR => w.1) (t22.trans a22.symm)]; exact hq
    have hq6 : mI m8 q 6 = nI n4r := by rw [tI q (by omega) (by omega) (by omega)]; exact hq6
    have hq5 : mI m8 q 5 = nI n2r := by rw [tI q (by omega) (by omega) (by omega)]; exact hq5
    have hq12 : mI m8 q 12 = nI n10r := by rw [tI q (by omega) (by omega) (by omega)]; exact hq12
    have hho : ∀ v, v < n10r → iR (mI m8 (q + 18) v) 24 := fun v hv => by
      rw [tI (q + 18) (by omega) (by omega) (by omega)]
      rw [show mI m (q + 18) v = mI m (a + 11) v from hLQ.2.2.2.2.2.2.2.2.2.2.1.1 v (show v < nv (mI m (a + 1) 10) by rw [n10s]; exact hv)]
      exact hhoA v hv
    have hce : ∀ c, c < 24 → iR (mI m8 (q + 1) c) 5 := fun c hc => by
      rw [tI (q + 1) (by omega) (by omega) (by omega)]
      rw [show mI m (q + 1) c = mI m (a + 2) c from hLQ.2.2.1 c hc]
      exact hI.2.2.2.1 c hc
    have hwo := wo_q (m8 := m8) (nt := n2r) hLQ hX.2.1 hI hn4 (by omega) hn10 (by omega) (by omega) h158 (fun r h1 h2 => tI r (by omega) (by omega) h2)
    have hwo2 : ∀ k, k < n10r → ∀ g, g < n4r → D1 2 (k * 6 + g) = _ := fun k hk g hg => ((flk k hk).2 g hg).trans (hwo k hk g hg)
    have hwr : ∀ k, k < n10r → ∀ g, g < n4r → ∃ w, w ≤ 200 ∧ D1 2 (k * 6 + g) = nI w := fun k hk g hg => by
      rw [(flk k hk).2 g hg]
      exact wo_r (by omega)
    have hpp := (bput_self (m := m8) (x := 155) (n := 1)).symm
    generalize (fun f => mI m8 (155 + f)) = DD at hpp
    rw [hpp]
    refine D302 hW (fun DS hDS => ?_)
    clear hpp
    have hrow : ∀ i, i < n10r → DS 0 i = D1 1 i := fun i hi => by
      rw [hDS i (by omega), tI 145 (by decide) (by decide) (by decide), hX.2.1.2.2.2.1 i (by omega), (flk i hi).1]
      rfl
    have hro : ∀ v, v < n10r → iR (DS 0 v) n4r := fun v hv => by rw [hrow v hv, (flk v hv).1]; exact hsa v hv
    refine And.intro ⟨by omega, Nat.le_of_ble_eq_true rfl, Nat.le_refl _, Nat.le_refl _⟩ (And.intro (Wdo_142 hW) ?_)
    refine D305 (R := DS 0) (wo := D1 2) (by omega) hW hN h158 hq hq6 (by omega) hq5 (by omega) hq12 (by omega) hho hce hwo2 hwr hro hn4p (fun D2 ez2 => ?_) rfl
    rw [bi_c (rsP_c (r := DS 0) (r' := D1 1) hrow)]
    have s22 : (bput m8 155 1 D2).2.2 = m8.2.2 := bput_22
    have sI : ∀ r, r ≠ 155 → mI (bput m8 155 1 D2) r = mI m8 r := fun r hr => by
      rcases Nat.lt_or_ge r 155 with z9 | z9
      · exact bput_lo (by omega)
      · exact bput_hi (by omega)
    generalize bput m8 155 1 D2 = m7 at s22 sI ⊢
    have hW : Wd m7.2.2 := by rw [s22]; exact hW
    refine And.intro (fun cr15 => ?_) (fun cr15 => ?_)
    · -- 15 taken: bi (rsP (D1 1) (D1 2) n10r n4r) = 0
      refine And.intro ⟨by omega, Nat.le_of_ble_eq_true rfl, Nat.le_refl _, Nat.le_refl _⟩ (And.intro (Wdo_142 hW) ?_)
      refine C202 (m := m7) hW ?_
      refine And.intro ⟨rfl, trivial, Nat.le_refl _, Nat.le_refl _⟩ ?_
      rw [bi_f (bi_eq0.mp cr15)] at h2
      exact h2 _ (Rel_s7 hR (s22.trans t22) (fun r g1 g2 g3 => (sI r (fun z9 => g1 (by unfold scr; omega))).trans (tI r (fun z9 => g1 (by unfold scr; omega)) g2 g3)) (fun _ => (sI 140 (by decide)).trans (tI 140 (by decide) (by decide) (by decide))) (by rw [sI 0 (by decide)]; exact t0) (fun k hk => by rw [sI 0 (by decide)]; exact t0k k hk) (fun k hk => by rw [sI 142 (by decide)]; exact t142 k hk))
    · -- 15 not: ¬ bi (rsP (D1 1) (D1 2) n10r n4r) = 0
      refine And.intro ⟨by omega, Nat.le_of_ble_eq_true rfl, Nat.le_refl _, Nat.le_refl _⟩ (And.intro (Wdo_142 hW) ?_)
      refine C202 (m := m7) hW ?_
      refine And.intro ⟨rfl, trivial, Nat.le_refl _, Nat.le_refl _⟩ ?_
      rw [bi_t (bi_ne0.mp cr15)] at h2
      exact h2 _ (Rel_s7 hR (s22.trans t22) (fun r g1 g2 g3 => (sI r (fun z9 => g1 (by unfold scr; omega))).trans (tI r (fun z9 => g1 (by unfold scr; omega)) g2 g3)) (fun _ => (sI 140 (by decide)).trans (tI 140 (by decide) (by decide) (by decide))) (by rw [sI 0 (by decide)]; exact t0) (fun k hk => by rw [sI 0 (by decide)]; exact t0k k hk) (fun k hk => by rw [sI 142 (by decide)]; exact t142 k hk))
