theorem SR_p {Λ I J : Nat → Nat → Int32} {g : Nat} {s : Int32} (h : SR Λ I 20) (hs : iR s 100) (ez0 : J 20 = I 20) (ez1 : J (20 + 1) = upd (I (20 + 1)) g s) (ez2 : J (20 + 2) = I (20 + 2)) (ez3 : J (20 + 3) = I (20 + 3)) : SR Λ J 20 := by
  refine ⟨by rw [ez0]; exact h.1, fun x hx => ?_, fun x hx => by rw [ez2]; exact h.2.2.1 x hx, fun x hx => by rw [ez3]; exact h.2.2.2 x hx⟩
  rw [ez1]
  by_cases e : x = g
  · rw [e, upd_e]; exact hs
  · rw [upd_o e]; exact h.2.1 x hx
theorem SR_s {Λ I J : Nat → Nat → Int32} {g : Nat} {s : Int32} (h : SR Λ I 20) (hs : s = -nI 2 ∨ iR s (nv (Λ 1 4))) (ez0 : J 20 = I 20) (ez1 : J (20 + 1) = I (20 + 1)) (ez2 : J (20 + 2) = upd (I (20 + 2)) g s) (ez3 : J (20 + 3) = I (20 + 3)) : SR Λ J 20 := by
  refine ⟨by rw [ez0]; exact h.1, fun x hx => by rw [ez1]; exact h.2.1 x hx, fun x hx => ?_, fun x hx => by rw [ez3]; exact h.2.2.2 x hx⟩
  rw [ez2]
  by_cases e : x = g
  · rw [e, upd_e]; exact hs
  · rw [upd_o e]; exact h.2.2.1 x hx
theorem SR_k {Λ I J : Nat → Nat → Int32} {g : Nat} {s : Int32} (h : SR Λ I 20) (hs : iR s (nv (Λ 1 4))) (ez0 : J 20 = I 20) (ez1 : J (20 + 1) = I (20 + 1)) (ez2 : J (20 + 2) = I (20 + 2)) (ez3 : J (20 + 3) = upd (I (20 + 3)) g s) : SR Λ J 20 := by
  refine ⟨by rw [ez0]; exact h.1, fun x hx => by rw [ez1]; exact h.2.1 x hx, fun x hx => by rw [ez2]; exact h.2.2.1 x hx, fun x hx => ?_⟩
  rw [ez3]
  by_cases e : x = g
  · rw [e, upd_e]; exact hs
  · rw [upd_o e]; exact h.2.2.2 x hx
theorem P_price {d : Nat} {m : Mm} {Q : Option Value → Mm → Prop} {z : Nat} {x y : Int32} (hd : 16 ≤ d) (hR : Rel z m) (h : ∀ (r : Int32) m1, Wd m1.2.2 → (∀ Q2 : Option Value → Mm → Prop, (∀ m2, Rel z m2 → Q2 (some (.int r)) m2) → Cc d 0 0 325 [.ref 142, .int x, .int y] m1 Q2) → Q (some (.int r)) m1) : Cc d 0 0 161 [.ref 0, .int x, .int y] m Q := by
  obtain ⟨hW, hz, hS, a, b, hA, hX⟩ := id hR
  obtain ⟨hL, hLb, hab, ha, hb⟩ := RelA_L hW hA
  obtain ⟨n2r, hn2, bn2, ln2⟩ := RL_n (s := 2) (f := 5) hX.2.2.1 (by decide) (fun _ _ h => h.2.2.2.2.2.1)
  change n2r ≤ 6 at bn2
  obtain ⟨n4r, hn4, bn4, ln4⟩ := RL_n (s := 4) (f := 6) hX.2.2.1 (by decide) (fun _ _ h => h.2.2.2.2.2.2.1)
  change n4r ≤ 6 at bn4
  obtain ⟨n8r, hn8, bn8, ln8⟩ := RL_n (s := 8) (f := 10) hX.2.2.1 (by decide) (fun _ _ h => h.2.2.2.2.2.2.2.2.2.2.1)
  change n8r ≤ 8 at bn8
  obtain ⟨n10r, hn10, bn10, ln10⟩ := RL_n (s := 10) (f := 12) hX.2.2.1 (by decide) (fun _ _ h => h.2.2.2.2.2.2.2.2.2.2.2.2.1)
  change n10r ≤ 4 at bn10
  obtain ⟨fk, wk, yk, hf, hw, hy, hp2, hp3, hp4, hp21, hp22, hc9, hc10⟩ := id hX.2.2.2.1
  refine ent (n := 98) z161 (by decide) rfl (by decide) (Nat.le_of_ble_eq_true rfl) (fun sc => ?_)
  refine And.intro ⟨by omega, Nat.le_of_ble_eq_true rfl, Nat.le_refl _, Nat.le_refl _⟩ (And.intro (Wdo_0 hW) ?_)
  refine C181 (by omega) hW ha hL hn4 (by omega) ?_
  refine And.intro (fun cz3 => ?_) (fun cz3 => ?_)
  · -- 3 taken: ¬ bi (iR x n4r) = 0
    obtain ⟨g, hg, rfl⟩ := bi_ne0.mp cz3
    obtain ⟨q, hq1⟩ := RL_1 (s := 4) hX.2.2.1 (by decide) hn4 (show 0 < n4r by omega) (by omega)
    have hqq := hq1
    obtain ⟨hq, w, u, ha0, ha1, hq0, hq1w, hw6, hu4, hwu, hgr⟩ := RL_q hq1
    obtain ⟨h158, hqz, hN, h3, ⟨T, hI⟩, hst, hla, hLQ, hSR⟩ := hq1
    have hq6 : mI m q 6 = nI n4r := hLQ.1.2.2.2.2.2.2.1.trans hn4
    have hq5 : mI m q 5 = nI n2r := hLQ.1.2.2.2.2.2.1.trans hn2
    refine And.intro (fun cz9 => ?_) (fun cz9 => ?_)
    · -- 9 taken: y < 0
      refine And.intro ⟨by omega, Nat.le_of_ble_eq_true rfl, Nat.le_refl _, Nat.le_refl _⟩ (And.intro (Wdo_0 hW) ?_)
      refine C178 hW ?_
      refine And.intro ⟨rfl, Or.inl rfl, Nat.le_refl _, Nat.le_refl _⟩ ?_
      refine h _ _ hW (fun Q2 h2 => ?_)
      refine ent (n := 108) z325 (by decide) rfl (by decide) (Nat.le_of_ble_eq_true rfl) (fun sc2 => ?_)
      refine And.intro (Wdo_142 hW) ?_
      refine And.intro ⟨by omega, Nat.le_of_ble_eq_true rfl, Nat.le_refl _, Nat.le_refl _⟩ (And.intro (Wdo_142 hW) ?_)
      refine C247 (m := (uI (uI m 0 0 (nI 2)) 142 0 (nI 0))) (by omega) hW (LN_u (LN_u ln4 (by decide)) (by decide)) (by omega) ?_
      refine And.intro (fun cr6 => ?_) (fun cr6 => False.elim (absurd (bi_ne0.mp cz3) (bi_eq0.mp cr6)))
      refine And.intro ⟨by omega, Nat.le_of_ble_eq_true rfl, Nat.le_refl _, Nat.le_refl _⟩ ?_
      refine C204 (m := (uI (uI m 0 0 (nI 2)) 142 0 (nI 0))) ?_
      refine And.intro (fun cr15 => False.elim (absurd (bi_ne0.mp cr15) (fun z9 => absurd cz9 (Int32.not_lt.mpr z9.1)))) (fun cr15 => ?_)
      refine And.intro ⟨by omega, Nat.le_of_ble_eq_true rfl, Nat.le_refl _, Nat.le_refl _⟩ (And.intro (Wdo_142 hW) ?_)
      refine C201 (m := (uI (uI m 0 0 (nI 2)) 142 0 (nI 0))) (by omega) hW ?_
      refine And.intro ⟨rfl, Or.inl rfl, Nat.le_refl _, Nat.le_refl _⟩ ?_
      exact h2 _ (Rel_ans hR (by decide))
    · -- 9 not: ¬ y < 0
      refine And.intro (fun cz12 => ?_) (fun cz12 => ?_)
      · -- 12 taken: y ≤ nI 99
        refine And.intro (Wdo_0 hW) (Exists.intro _ (And.intro (Wdr_0_4 hW) ?_))
        refine And.intro (SWo_0 (Wd_S hW)) (Exists.intro _ (And.intro (SWr_0_2 (Wd_S hW)) ?_))
        refine And.intro (SWi_1 (Wd_S hW) (vi rfl (by omega))) ?_
        rw [nI_clamp (show g < 2 ^ 31 by omega)]
        refine And.intro (fun cz23 => ?_) (fun cz23 => ?_)
        · -- 23 taken: ¬ mI m (20 + 1) g = y
          refine And.intro ⟨by omega, Nat.le_of_ble_eq_true rfl, Nat.le_refl _, Nat.le_refl _⟩ (And.intro (Wdo_0 hW) ?_)
          refine C187 (f := fk) (w := wk) (by omega) hW hf hw hp2 hp3 (fun m9 hak a22 => ?_)
          have hmod : (fk + wk) % 12 < 12 := Nat.mod_lt _ (by decide)
          have hW0 := hW
          have hW : Wd m9.2.2 := by rw [a22]; exact hW0
          have hak8 : ∀ r, 158 ≤ r → mI m9 r = mI m r := fun r hr => hak.1 r (by omega) (by omega)
          have ln2 := LN_m ln2 a22 hak8
          have ln4 := LN_m ln4 a22 hak8
          have ln8 := LN_m ln8 a22 hak8
          have ln10 := LN_m ln10 a22 hak8
          have hq : va_rf (mR m9 142 3) = .ref q := by rw [show mR m9 = mR m from congrArg (fun w : WR => w.1) a22]; exact hq
          have hN : NW m9.2.2 q := by rw [a22]; exact hN
          have ha : va_rf (mR m9 0 3) = .ref a := by rw [show mR m9 = mR m from congrArg (fun w : WR => w.1) a22]; exact ha
          refine And.intro (Wdo_0 hW) (Exists.intro _ (And.intro (Wdr_0_4 hW) ?_))
          refine And.intro (SWo_0 (Wd_S hW)) (Exists.intro _ (And.intro (SWr_0_2 (Wd_S hW)) ?_))
          refine And.intro (SWi_1 (Wd_S hW) (vi rfl (by omega))) ?_
          rw [nI_clamp (show g < 2 ^ 31 by omega)]
          refine And.intro ⟨by omega, Nat.le_of_ble_eq_true rfl, Nat.le_refl _, Nat.le_refl _⟩ (And.intro (Wdo_0 hW) ?_)
          refine C179 (m := (uI (uI m9 0 12 (nI 1)) (20 + 1) g y)) hW ?_
          refine And.intro ⟨rfl, Or.inr rfl, Nat.le_refl _, Nat.le_refl _⟩ ?_
          refine h _ _ hW (fun Q2 h2 => ?_)
          refine ent (n := 108) z325 (by decide) rfl (by decide) (Nat.le_of_ble_eq_true rfl) (fun sc2 => ?_)
          refine And.intro (Wdo_142 hW) ?_
          refine And.intro ⟨by omega, Nat.le_of_ble_eq_true rfl, Nat.le_refl _, Nat.le_refl _⟩ (And.intro (Wdo_142 hW) ?_)
          refine C247 (m := (uI (uI (uI (uI m9 0 12 (nI 1)) (20 + 1) g y) 0 0 (nI 0)) 142 0 (nI 0))) (by omega) hW (LN_u (LN_u (LN_u (LN_u ln4 (by decide)) (by decide)) (by decide)) (by decide)) (by omega) ?_
          refine And.intro (fun cr6 => ?_) (fun cr6 => False.elim (absurd (bi_ne0.mp cz3) (bi_eq0.mp cr6)))
          refine And.intro ⟨by omega, Nat.le_of_ble_eq_true rfl, Nat.le_refl _, Nat.le_refl _⟩ ?_
          refine C204 (m := (uI (uI (uI (uI m9 0 12 (nI 1)) (20 + 1) g y) 0 0 (nI 0)) 142 0 (nI 0))) ?_
          refine And.intro (fun cr15 => ?_) (fun cr15 => False.elim (absurd (⟨Int32.not_lt.mp cz9, cz12⟩) (bi_eq0.mp cr15)))
          refine And.intro (Wdo_142 hW) (Exists.intro _ (And.intro (Wdr_142_18 hW) ?_))
          have er25 : nI 1 + nI g = nI (1 + g) := by simp only [nI_add, pk_mul]
          refine And.intro (Wdi_145 hW (vi er25 (by omega))) ?_
          rw [vc er25 (by omega)]
          rw [uI_ne (m := (uI (uI (uI m9 0 12 (nI 1)) (20 + 1) g y) 0 0 (nI 0))) (a := 142) (b := 145) (by omega)]
          rw [uI_ne (m := (uI (uI m9 0 12 (nI 1)) (20 + 1) g y)) (a := 0) (b := 145) (by omega)]
          rw [uI_ne (m := (uI m9 0 12 (nI 1))) (a := (20 + 1)) (b := 145) (by omega)]
          rw [uI_ne (m := m9) (a := 0) (b := 145) (by omega)]
          rw [hak.1 145 (by decide) (by omega), show mI m 145 (1 + g) = mI m (20 + 1) g from hX.2.1.2.1 g (by omega)]
          refine And.intro (fun cr27 => ?_) (fun cr27 => False.elim (absurd cr27 (cz23)))
          refine And.intro ⟨by omega, Nat.le_of_ble_eq_true rfl, Nat.le_refl _, Nat.le_refl _⟩ (And.intro (Wdo_142 hW) ?_)
          refine C322 (m := (uI (uI (uI (uI m9 0 12 (nI 1)) (20 + 1) g y) 0 0 (nI 0)) 142 0 (nI 0))) (w := wk) hW hw (by rw [uI_eq, upd_o (by decide), uI_ne (by decide), uI_ne (by decide), uI_ne (by decide), hak.1 142 (by decide) (by omega)]; exact hp21) (fun m8 hke hkk => ?_)
          have hW8 : Wd m8.2.2 := by rw [hkk]; exact hW
          have hW := hW8
          refine And.intro (Wdo_142 hW) (Exists.intro _ (And.intro (Wdr_142_18 hW) ?_))
          have er40 : nI 1 + nI g = nI (1 + g) := by simp only [nI_add, pk_mul]
          refine And.intro (Wdi_145 hW (vi er40 (by omega))) ?_
          rw [vc er40 (by omega)]
          refine And.intro ⟨by omega, Nat.le_of_ble_eq_true rfl, Nat.le_refl _, Nat.le_refl _⟩ (And.intro (Wdo_142 hW) ?_)
          refine C203 (m := (uI m8 145 (1 + g) y)) (by omega) hW ?_
          refine And.intro ⟨rfl, Or.inr rfl, Nat.le_refl _, Nat.le_refl _⟩ ?_
          have er145 : mI m8 145 = mI m 145 := by rw [hke.1 145 (by decide) (by decide), uI_ne (by decide), uI_ne (by decide), uI_ne (by decide), uI_ne (by decide), hak.1 145 (by decide) (by omega)]
          have hb4 : nv (lam m a 1 4) ≤ 6 := (hI.1 4 (by decide)).2
          have hb10 : nv (lam m a 1 10) ≤ 4 := (hI.1 10 (by decide)).2
          have hn20 : ∀ r, r < 30 → mI (uI (uI (uI m8 145 (1 + g) y) 142 1 (nI 0)) 142 2 (-nI 1)) r = mI (uI (uI (uI m9 0 12 (nI 1)) (20 + 1) g y) 0 0 (nI 0)) r := fun r hr => by rw [uI_ne (by omega), uI_ne (by omega), uI_ne (by omega), hke.1 r (by omega) (by omega), uI_ne (by omega)]
          have hn145 : mI (uI (uI (uI m8 145 (1 + g) y) 142 1 (nI 0)) 142 2 (-nI 1)) 145 = upd (mI m 145) (1 + g) y := by rw [uI_ne (by decide), uI_ne (by decide), uI_eq, er145]
          have es0 : mI (uI (uI (uI m9 0 12 (nI 1)) (20 + 1) g y) 0 0 (nI 0)) 20 = mI m 20 := by rw [uI_ne (by decide), uI_ne (by decide), uI_ne (by decide), hak.1 20 (by decide) (by omega)]
          have es1 : mI (uI (uI (uI m9 0 12 (nI 1)) (20 + 1) g y) 0 0 (nI 0)) (20 + 1) = upd (mI m (20 + 1)) g y := by rw [uI_ne (by decide), uI_eq, uI_ne (by decide), hak.1 (20 + 1) (by decide) (by omega)]
          have es2 : mI (uI (uI (uI m9 0 12 (nI 1)) (20 + 1) g y) 0 0 (nI 0)) (20 + 2) = mI m (20 + 2) := by rw [uI_ne (by decide), uI_ne (by decide), uI_ne (by decide), hak.1 (20 + 2) (by decide) (by omega)]
          have es3 : mI (uI (uI (uI m9 0 12 (nI 1)) (20 + 1) g y) 0 0 (nI 0)) (20 + 3) = mI m (20 + 3) := by rw [uI_ne (by decide), uI_ne (by decide), uI_ne (by decide), hak.1 (20 + 3) (by decide) (by omega)]
          have hsv : SV (mI (uI (uI (uI m9 0 12 (nI 1)) (20 + 1) g y) 0 0 (nI 0))) 20 (upd (mI m 145) (1 + g) y) := SV_p (by omega) hX.2.1 es0 es1 es2 es3
          refine h2 _ (Rel_act (m9 := m9) (g := (uI (uI (uI m9 0 12 (nI 1)) (20 + 1) g y) 0 0 (nI 0))) (m8 := m8) hW0 hz hS hA hX hqq hf hw hy hp4 hp22 hc9 hc10 hak a22 (by rw [uI_22, uI_22, uI_22]) (fun r h0 h1 => by rw [uI_ne h0, uI_ne (by omega), uI_ne h0]) (by rw [uI_eq, upd_e]) (by rw [uI_eq, upd_o (by decide), uI_ne (by decide), uI_eq, upd_o (by decide)]) (by rw [uI_eq, upd_o (by decide), uI_ne (by decide), uI_eq, upd_e]) hke hkk (by rw [uI_22, uI_22, uI_22]) (fun r h1 h2 => by rw [uI_ne h1, uI_ne h1, uI_ne h2]) (by rw [uI_eq, upd_o (by decide), uI_eq, upd_e]) (by rw [uI_eq, upd_e]) (fun x h1 h2 => by rw [uI_eq, upd_o h2, uI_eq, upd_o h1, uI_ne (by decide)]) ?_ ?_)
          · rw [hn145]
            exact SV_m hsv (fun _ _ => rfl) (by rw [hn20 20 (by decide)]) (by rw [hn20 20 (by decide)]) (fun x _ => by rw [hn20 (20 + 1) (by decide)]) (fun x _ => by rw [hn20 (20 + 2) (by decide)]) (fun x _ => by rw [hn20 (20 + 3) (by decide)])
          · have hsr := SR_p (J := mI (uI (uI (uI m9 0 12 (nI 1)) (20 + 1) g y) 0 0 (nI 0))) hSR (iR_of (a := 0) (b := 99) (by decide) (by decide) (Int32.not_lt.mp cz9) cz12).1 es0 es1 es2 es3
            exact SR_m hsr hb4 hb10 (by rw [hn20 20 (by decide)]) (fun x _ => by rw [hn20 (20 + 1) (by decide)]) (fun x _ => by rw [hn20 (20 + 2) (by decide)]) (fun x _ => by rw [hn20 (20 + 3) (by decide)])
        · -- 23 not: mI m (20 + 1) g = y
          refine And.intro ⟨by omega, Nat.le_of_ble_eq_true rfl, Nat.le_refl _, Nat.le_refl _⟩ (And.intro (Wdo_0 hW) ?_)
          refine C178 hW ?_
          refine And.intro ⟨rfl, Or.inl rfl, Nat.le_refl _, Nat.le_refl _⟩ ?_
          refine h _ _ hW (fun Q2 h2 => ?_)
          refine ent (n := 108) z325 (by decide) rfl (by decide) (Nat.le_of_ble_eq_true rfl) (fun sc2 => ?_)
          refine And.intro (Wdo_142 hW) ?_
          refine And.intro ⟨by omega, Nat.le_of_ble_eq_true rfl, Nat.le_refl _, Nat.le_refl _⟩ (And.intro (Wdo_142 hW) ?_)
          refine C247 (m := (uI (uI m 0 0 (nI 5)) 142 0 (nI 0))) (by omega) hW (LN_u (LN_u ln4 (by decide)) (by decide)) (by omega) ?_
          refine And.intro (fun cr6 => ?_) (fun cr6 => False.elim (absurd (bi_ne0.mp cz3) (bi_eq0.mp cr6)))
          refine And.intro ⟨by omega, Nat.le_of_ble_eq_true rfl, Nat.le_refl _, Nat.le_refl _⟩ ?_
          refine C204 (m := (uI (uI m 0 0 (nI 5)) 142 0 (nI 0))) ?_
          refine And.intro (fun cr15 => ?_) (fun cr15 => False.elim (absurd (⟨Int32.not_lt.mp cz9, cz12⟩) (bi_eq0.mp cr15)))
          refine And.intro (Wdo_142 hW) (Exists.intro _ (And.intro (Wdr_142_18 hW) ?_))
          have er25 : nI 1 + nI g = nI (1 + g) := by simp only [nI_add, pk_mul]
          refine And.intro (Wdi_145 hW (vi er25 (by omega))) ?_
          rw [vc er25 (by omega)]
          rw [uI_ne (m := (uI m 0 0 (nI 5))) (a := 142) (b := 145) (by omega)]
          rw [uI_ne (m := m) (a := 0) (b := 145) (by omega)]
          rw [show mI m 145 (1 + g) = mI m (20 + 1) g from hX.2.1.2.1 g (by omega)]
          refine And.intro (fun cr27 => False.elim (absurd (cz23) cr27)) (fun cr27 => ?_)
          refine And.intro ⟨by omega, Nat.le_of_ble_eq_true rfl, Nat.le_refl _, Nat.le_refl _⟩ (And.intro (Wdo_142 hW) ?_)
          refine C201 (m := (uI (uI m 0 0 (nI 5)) 142 0 (nI 0))) (by omega) hW ?_
          refine And.intro ⟨rfl, Or.inl rfl, Nat.le_refl _, Nat.le_refl _⟩ ?_
          exact h2 _ (Rel_ans hR (by decide))
      · -- 12 not: ¬ y ≤ nI 99
        refine And.intro ⟨by omega, Nat.le_of_ble_eq_true rfl, Nat.le_refl _, Nat.le_refl _⟩ (And.intro (Wdo_0 hW) ?_)
        refine C178 hW ?_
        refine And.intro ⟨rfl, Or.inl rfl, Nat.le_refl _, Nat.le_refl _⟩ ?_
        refine h _ _ hW (fun Q2 h2 => ?_)
        refine ent (n := 108) z325 (by decide) rfl (by decide) (Nat.le_of_ble_eq_true rfl) (fun sc2 => ?_)
        refine And.intro (Wdo_142 hW) ?_
        refine And.intro ⟨by omega, Nat.le_of_ble_eq_true rfl, Nat.le_refl _, Nat.le_refl _⟩ (And.intro (Wdo_142 hW) ?_)
        refine C247 (m := (uI (uI m 0 0 (nI 2)) 142 0 (nI 0))) (by omega) hW (LN_u (LN_u ln4 (by decide)) (by decide)) (by omega) ?_
        refine And.intro (fun cr6 => ?_) (fun cr6 => False.elim (absurd (bi_ne0.mp cz3) (bi_eq0.mp cr6)))
        refine And.intro ⟨by omega, Nat.le_of_ble_eq_true rfl, Nat.le_refl _, Nat.le_refl _⟩ ?_
        refine C204 (m := (uI (uI m 0 0 (nI 2)) 142 0 (nI 0))) ?_
        refine And.intro (fun cr15 => False.elim (absurd (bi_ne0.mp cr15) (fun z9 => absurd z9.2 cz12))) (fun cr15 => ?_)
        refine And.intro ⟨by omega, Nat.le_of_ble_eq_true rfl, Nat.le_refl _, Nat.le_refl _⟩ (And.intro (Wdo_142 hW) ?_)
        refine C201 (m := (uI (uI m 0 0 (nI 2)) 142 0 (nI 0))) (by omega) hW ?_
        refine And.intro ⟨rfl, Or.inl rfl, Nat.le_refl _, Nat.le_refl _⟩ ?_
        exact h2 _ (Rel_ans hR (by decide))
  · -- 3 not: bi (iR x n4r) = 0
    refine And.intro ⟨by omega, Nat.le_of_ble_eq_true rfl, Nat.le_refl _, Nat.le_refl _⟩ (And.intro (Wdo_0 hW) ?_)
    refine C178 hW ?_
    refine And.intro ⟨rfl, Or.inl rfl, Nat.le_refl _, Nat.le_refl _⟩ ?_
    refine h _ _ hW (fun Q2 h2 => ?_)
    refine ent (n := 108) z325 (by decide) rfl (by decide) (Nat.le_of_ble_eq_true rfl) (fun sc2 => ?_)
    refine And.intro (Wdo_142 hW) ?_
    refine And.intro ⟨by omega, Nat.le_of_ble_eq_true rfl, Nat.le_refl _, Nat.le_refl _⟩ (And.intro (Wdo_142 hW) ?_)
    refine C247 (m := (uI (uI m 0 0 (nI 1)) 142 0 (nI 0))) (by omega) hW (LN_u (LN_u ln4 (by decide)) (by decide)) (by omega) ?_
    refine And.intro (fun cr6 => False.elim (absurd (bi_ne0.mp cr6) (bi_eq0.mp cz3))) (fun cr6 => ?_)
    refine And.intro ⟨by omega, Nat.le_of_ble_eq_true rfl, Nat.le_refl _, Nat.le_refl _⟩ (And.intro (Wdo_142 hW) ?_)
    refine C201 (m := (uI (uI m 0 0 (nI 1)) 142 0 (nI 0))) (by omega) hW ?_
    refine And.intro ⟨rfl, Or.inl rfl, Nat.le_refl _, Nat.le_refl _⟩ ?_
    exact h2 _ (Rel_ans hR (by decide))
theorem P_changes {d : Nat} {m : Mm} {Q : Option Value → Mm → Prop} {z : Nat} {x y : Int32} (hd : 16 ≤ d) (hR : Rel z m) (h : ∀ (r : Int32) m1, Wd m1.2.2 → (∀ Q2 : Option Value → Mm → Prop, (∀ m2, Rel z m2 → Q2 (some (.int r)) m2) → Cc d 0 0 327 [.ref 142, .int x, .int y] m1 Q2) → Q (some (.int r)) m1) : Cc d 0 0 163 [.ref 0, .int x, .int y] m Q := by
  obtain ⟨hW, hz, hS, a, b, hA, hX⟩ := id hR
  obtain ⟨hL, hLb, hab, ha, hb⟩ := RelA_L hW hA
  obtain ⟨n2r, hn2, bn2, ln2⟩ := RL_n (s := 2) (f := 5) hX.2.2.1 (by decide) (fun _ _ h => h.2.2.2.2.2.1)
  change n2r ≤ 6 at bn2
  obtain ⟨n4r, hn4, bn4, ln4⟩ := RL_n (s := 4) (f := 6) hX.2.2.1 (by decide) (fun _ _ h => h.2.2.2.2.2.2.1)
  change n4r ≤ 6 at bn4
  obtain ⟨n8r, hn8, bn8, ln8⟩ := RL_n (s := 8) (f := 10) hX.2.2.1 (by decide) (fun _ _ h => h.2.2.2.2.2.2.2.2.2.2.1)
  change n8r ≤ 8 at bn8
  obtain ⟨n10r, hn10, bn10, ln10⟩ := RL_n (s := 10) (f := 12) hX.2.2.1 (by decide) (fun _ _ h => h.2.2.2.2.2.2.2.2.2.2.2.2.1)
  change n10r ≤ 4 at bn10
  obtain ⟨fk, wk, yk, hf, hw, hy, hp2, hp3, hp4, hp21, hp22, hc9, hc10⟩ := id hX.2.2.2.1
  refine ent (n := 88) z163 (by decide) rfl (by decide) (Nat.le_of_ble_eq_true rfl) (fun sc => ?_)
  refine And.intro ⟨by omega, Nat.le_of_ble_eq_true rfl, Nat.le_refl _, Nat.le_refl _⟩ (And.intro (Wdo_0 hW) ?_)
  refine C186 (by omega) hW ha hL hn10 (by omega) ?_
  refine And.intro (fun cz3 => ?_) (fun cz3 => ?_)
  · -- 3 taken: bi (iR x n10r) = 0
    refine And.intro ⟨by omega, Nat.le_of_ble_eq_true rfl, Nat.le_refl _, Nat.le_refl _⟩ (And.intro (Wdo_0 hW) ?_)
    refine C178 hW ?_
    refine And.intro ⟨rfl, Or.inl rfl, Nat.le_refl _, Nat.le_refl _⟩ ?_
    refine h _ _ hW (fun Q2 h2 => ?_)
    refine ent (n := 98) z327 (by decide) rfl (by decide) (Nat.le_of_ble_eq_true rfl) (fun sc2 => ?_)
    refine And.intro (Wdo_142 hW) ?_
    refine And.intro ⟨by omega, Nat.le_of_ble_eq_true rfl, Nat.le_refl _, Nat.le_refl _⟩ (And.intro (Wdo_142 hW) ?_)
    refine C250 (m := (uI (uI m 0 0 (nI 1)) 142 0 (nI 0))) (by omega) hW (LN_u (LN_u ln10 (by decide)) (by decide)) (by omega) ?_
    refine And.intro (fun cr6 => ?_) (fun cr6 => False.elim (absurd (bi_ne0.mp cr6) (bi_eq0.mp cz3)))
    refine And.intro ⟨by omega, Nat.le_of_ble_eq_true rfl, Nat.le_refl _, Nat.le_refl _⟩ (And.intro (Wdo_142 hW) ?_)
    refine C201 (m := (uI (uI m 0 0 (nI 1)) 142 0 (nI 0))) (by omega) hW ?_
    refine And.intro ⟨rfl, Or.inl rfl, Nat.le_refl _, Nat.le_refl _⟩ ?_
    exact h2 _ (Rel_ans hR (by decide))
  · -- 3 not: ¬ bi (iR x n10r) = 0
    refine And.intro ⟨by omega, Nat.le_of_ble_eq_true rfl, Nat.le_refl _, Nat.le_refl _⟩ (And.intro (Wdo_0 hW) ?_)
    refine C181 (by omega) hW ha hL hn4 (by omega) ?_
    refine And.intro (fun cz7 => ?_) (fun cz7 => ?_)
    · -- 7 taken: ¬ bi (iR y n4r) = 0
      obtain ⟨v, hv, rfl⟩ := bi_ne0.mp cz3
      obtain ⟨g, hg, rfl⟩ := bi_ne0.mp cz7
      obtain ⟨q, hq1⟩ := RL_1 (s := 10) hX.2.2.1 (by decide) hn10 (show 0 < n10r by omega) (by omega)
      have hqq := hq1
      obtain ⟨hq, w, u, ha0, ha1, hq0, hq1w, hw6, hu4, hwu, hgr⟩ := RL_q hq1
      obtain ⟨h158, hqz, hN, h3, ⟨T, hI⟩, hst, hla, hLQ, hSR⟩ := hq1
      have hq6 : mI m q 6 = nI n4r := hLQ.1.2.2.2.2.2.2.1.trans hn4
      have hq5 : mI m q 5 = nI n2r := hLQ.1.2.2.2.2.2.1.trans hn2
      refine And.intro (Wdo_0 hW) (Exists.intro _ (And.intro (Wdr_0_4 hW) ?_))
      refine And.intro (SWo_0 (Wd_S hW)) (Exists.intro _ (And.intro (SWr_0_4 (Wd_S hW)) ?_))
      refine And.intro (SWi_3 (Wd_S hW) (vi rfl (by omega))) ?_
      rw [nI_clamp (show v < 2 ^ 31 by omega)]
      refine And.intro (fun cz18 => ?_) (fun cz18 => ?_)
      · -- 18 taken: ¬ mI m (20 + 3) v = nI g
        refine And.intro ⟨by omega, Nat.le_of_ble_eq_true rfl, Nat.le_refl _, Nat.le_refl _⟩ (And.intro (Wdo_0 hW) ?_)
        refine C187 (f := fk) (w := wk) (by omega) hW hf hw hp2 hp3 (fun m9 hak a22 => ?_)
        have hmod : (fk + wk) % 12 < 12 := Nat.mod_lt _ (by decide)
        have hW0 := hW
        have hW : Wd m9.2.2 := by rw [a22]; exact hW0
        have hak8 : ∀ r, 158 ≤ r → mI m9 r = mI m r := fun r hr => hak.1 r (by omega) (by omega)
        have ln2 := LN_m ln2 a22 hak8
        have ln4 := LN_m ln4 a22 hak8
        have ln8 := LN_m ln8 a22 hak8
        have ln10 := LN_m ln10 a22 hak8
        have hq : va_rf (mR m9 142 3) = .ref q := by rw [show mR m9 = mR m from congrArg (fun w : WR => w.1) a22]; exact hq
        have hN : NW m9.2.2 q := by rw [a22]; exact hN
        have ha : va_rf (mR m9 0 3) = .ref a := by rw [show mR m9 = mR m from congrArg (fun w : WR => w.1) a22]; exact ha
        refine And.intro (Wdo_0 hW) (Exists.intro _ (And.intro (Wdr_0_4 hW) ?_))
        refine And.intro (SWo_0 (Wd_S hW)) (Exists.intro _ (And.intro (SWr_0_4 (Wd_S hW)) ?_))
        refine And.intro (SWi_3 (Wd_S hW) (vi rfl (by omega))) ?_
        rw [nI_clamp (show v < 2 ^ 31 by omega)]
        refine And.intro ⟨by omega, Nat.le_of_ble_eq_true rfl, Nat.le_refl _, Nat.le_refl _⟩ (And.intro (Wdo_0 hW) ?_)
        refine C179 (m := (uI (uI m9 0 12 (nI 1)) (20 + 3) v (nI g))) hW ?_
        refine And.intro ⟨rfl, Or.inr rfl, Nat.le_refl _, Nat.le_refl _⟩ ?_
        refine h _ _ hW (fun Q2 h2 => ?_)
        refine ent (n := 98) z327 (by decide) rfl (by decide) (Nat.le_of_ble_eq_true rfl) (fun sc2 => ?_)
        refine And.intro (Wdo_142 hW) ?_
        refine And.intro ⟨by omega, Nat.le_of_ble_eq_true rfl, Nat.le_refl _, Nat.le_refl _⟩ (And.intro (Wdo_142 hW) ?_)
        refine C250 (m := (uI (uI (uI (uI m9 0 12 (nI 1)) (20 + 3) v (nI g)) 0 0 (nI 0)) 142 0 (nI 0))) (by omega) hW (LN_u (LN_u (LN_u (LN_u ln10 (by decide)) (by decide)) (by decide)) (by decide)) (by omega) ?_
        refine And.intro (fun cr6 => False.elim (absurd (bi_ne0.mp cz3) (bi_eq0.mp cr6))) (fun cr6 => ?_)
        refine And.intro ⟨by omega, Nat.le_of_ble_eq_true rfl, Nat.le_refl _, Nat.le_refl _⟩ (And.intro (Wdo_142 hW) ?_)
        refine C247 (m := (uI (uI (uI (uI m9 0 12 (nI 1)) (20 + 3) v (nI g)) 0 0 (nI 0)) 142 0 (nI 0))) (by omega) hW (LN_u (LN_u (LN_u (LN_u ln4 (by decide)) (by decide)) (by decide)) (by decide)) (by omega) ?_
        refine And.intro (fun cr10 => ?_) (fun cr10 => False.elim (absurd (bi_ne0.mp cz7) (bi_eq0.mp cr10)))
        refine And.intro (Wdo_142 hW) (Exists.intro _ (And.intro (Wdr_142_18 hW) ?_))
        have er20 : nI 43 + nI v = nI (43 + v) := by simp only [nI_add, pk_mul]
        refine And.intro (Wdi_145 hW (vi er20 (by omega))) ?_
        rw [vc er20 (by omega)]
        rw [uI_ne (m := (uI (uI (uI m9 0 12 (nI 1)) (20 + 3) v (nI g)) 0 0 (nI 0))) (a := 142) (b := 145) (by omega)]
        rw [uI_ne (m := (uI (uI m9 0 12 (nI 1)) (20 + 3) v (nI g))) (a := 0) (b := 145) (by omega)]
        rw [uI_ne (m := (uI m9 0 12 (nI 1))) (a := (20 + 3)) (b := 145) (by omega)]
        rw [uI_ne (m := m9) (a := 0) (b := 145) (by omega)]
        rw [hak.1 145 (by decide) (by omega), show mI m 145 (43 + v) = mI m (20 + 3) v from hX.2.1.2.2.2.1 v (by omega)]
        refine And.intro (fun cr22 => ?_) (fun cr22 => False.elim (absurd cr22 (cz18)))
        refine And.intro ⟨by omega, Nat.le_of_ble_eq_true rfl, Nat.le_refl _, Nat.le_refl _⟩ (And.intro (Wdo_142 hW) ?_)
        refine C322 (m := (uI (uI (uI (uI m9 0 12 (nI 1)) (20 + 3) v (nI g)) 0 0 (nI 0)) 142 0 (nI 0))) (w := wk) hW hw (by rw [uI_eq, upd_o (by decide), uI_ne (by decide), uI_ne (by decide), uI_ne (by decide), hak.1 142 (by decide) (by omega)]; exact hp21) (fun m8 hke hkk => ?_)
        have hW8 : Wd m8.2.2 := by rw [hkk]; exact hW
        have hW := hW8
        refine And.intro (Wdo_142 hW) (Exists.intro _ (And.intro (Wdr_142_18 hW) ?_))
        have er35 : nI 43 + nI v = nI (43 + v) := by simp only [nI_add, pk_mul]
        refine And.intro (Wdi_145 hW (vi er35 (by omega))) ?_
        rw [vc er35 (by omega)]
        refine And.intro ⟨by omega, Nat.le_of_ble_eq_true rfl, Nat.le_refl _, Nat.le_refl _⟩ (And.intro (Wdo_142 hW) ?_)
        refine C203 (m := (uI m8 145 (43 + v) (nI g))) (by omega) hW ?_
        refine And.intro ⟨rfl, Or.inr rfl, Nat.le_refl _, Nat.le_refl _⟩ ?_
        have er145 : mI m8 145 = mI m 145 := by rw [hke.1 145 (by decide) (by decide), uI_ne (by decide), uI_ne (by decide), uI_ne (by decide), uI_ne (by decide), hak.1 145 (by decide) (by omega)]
        have hb4 : nv (lam m a 1 4) ≤ 6 := (hI.1 4 (by decide)).2
        have hb10 : nv (lam m a 1 10) ≤ 4 := (hI.1 10 (by decide)).2
        have hn20 : ∀ r, r < 30 → mI (uI (uI (uI m8 145 (43 + v) (nI g)) 142 1 (nI 0)) 142 2 (-nI 1)) r = mI (uI (uI (uI m9 0 12 (nI 1)) (20 + 3) v (nI g)) 0 0 (nI 0)) r := fun r hr => by rw [uI_ne (by omega), uI_ne (by omega), uI_ne (by omega), hke.1 r (by omega) (by omega), uI_ne (by omega)]
        have hn145 : mI (uI (uI (uI m8 145 (43 + v) (nI g)) 142 1 (nI 0)) 142 2 (-nI 1)) 145 = upd (mI m 145) (43 + v) (nI g) := by rw [uI_ne (by decide), uI_ne (by decide), uI_eq, er145]
        have es0 : mI (uI (uI (uI m9 0 12 (nI 1)) (20 + 3) v (nI g)) 0 0 (nI 0)) 20 = mI m 20 := by rw [uI_ne (by decide), uI_ne (by decide), uI_ne (by decide), hak.1 20 (by decide) (by omega)]
        have es1 : mI (uI (uI (uI m9 0 12 (nI 1)) (20 + 3) v (nI g)) 0 0 (nI 0)) (20 + 1) = mI m (20 + 1) := by rw [uI_ne (by decide), uI_ne (by decide), uI_ne (by decide), hak.1 (20 + 1) (by decide) (by omega)]
        have es2 : mI (uI (uI (uI m9 0 12 (nI 1)) (20 + 3) v (nI g)) 0 0 (nI 0)) (20 + 2) = mI m (20 + 2) := by rw [uI_ne (by decide), uI_ne (by decide), uI_ne (by decide), hak.1 (20 + 2) (by decide) (by omega)]
        have es3 : mI (uI (uI (uI m9 0 12 (nI 1)) (20 + 3) v (nI g)) 0 0 (nI 0)) (20 + 3) = upd (mI m (20 + 3)) v (nI g) := by rw [uI_ne (by decide), uI_eq, uI_ne (by decide), hak.1 (20 + 3) (by decide) (by omega)]
        have hnv4 : nv (lam m a 1 4) = n4r := by show nv (mI m (a + 1) 4) = _; rw [hn4, nv_nI (by omega)]
        have hsv : SV (mI (uI (uI (uI m9 0 12 (nI 1)) (20 + 3) v (nI g)) 0 0 (nI 0))) 20 (upd (mI m 145) (43 + v) (nI g)) := SV_k (by omega) hX.2.1 es0 es1 es2 es3
        refine h2 _ (Rel_act (m9 := m9) (g := (uI (uI (uI m9 0 12 (nI 1)) (20 + 3) v (nI g)) 0 0 (nI 0))) (m8 := m8) hW0 hz hS hA hX hqq hf hw hy hp4 hp22 hc9 hc10 hak a22 (by rw [uI_22, uI_22, uI_22]) (fun r h0 h1 => by rw [uI_ne h0, uI_ne (by omega), uI_ne h0]) (by rw [uI_eq, upd_e]) (by rw [uI_eq, upd_o (by decide), uI_ne (by decide), uI_eq, upd_o (by decide)]) (by rw [uI_eq, upd_o (by decide), uI_ne (by decide), uI_eq, upd_e]) hke hkk (by rw [uI_22, uI_22, uI_22]) (fun r h1 h2 => by rw [uI_ne h1, uI_ne h1, uI_ne h2]) (by rw [uI_eq, upd_o (by decide), uI_eq, upd_e]) (by rw [uI_eq, upd_e]) (fun x h1 h2 => by rw [uI_eq, upd_o h2, uI_eq, upd_o h1, uI_ne (by decide)]) ?_ ?_)
        · rw [hn145]
          exact SV_m hsv (fun _ _ => rfl) (by rw [hn20 20 (by decide)]) (by rw [hn20 20 (by decide)]) (fun x _ => by rw [hn20 (20 + 1) (by decide)]) (fun x _ => by rw [hn20 (20 + 2) (by decide)]) (fun x _ => by rw [hn20 (20 + 3) (by decide)])
        · have hsr := SR_k (J := mI (uI (uI (uI m9 0 12 (nI 1)) (20 + 3) v (nI g)) 0 0 (nI 0))) hSR ⟨g, by rw [hnv4]; exact hg, rfl⟩ es0 es1 es2 es3
          exact SR_m hsr hb4 hb10 (by rw [hn20 20 (by decide)]) (fun x _ => by rw [hn20 (20 + 1) (by decide)]) (fun x _ => by rw [hn20 (20 + 2) (by decide)]) (fun x _ => by rw [hn20 (20 + 3) (by decide)])
      · -- 18 not: mI m (20 + 3) v = nI g
        refine And.intro ⟨by omega, Nat.le_of_ble_eq_true rfl, Nat.le_refl _, Nat.le_refl _⟩ (And.intro (Wdo_0 hW) ?_)
        refine C178 hW ?_
        refine And.intro ⟨rfl, Or.inl rfl, Nat.le_refl _, Nat.le_refl _⟩ ?_
        refine h _ _ hW (fun Q2 h2 => ?_)
        refine ent (n := 98) z327 (by decide) rfl (by decide) (Nat.le_of_ble_eq_true rfl) (fun sc2 => ?_)
        refine And.intro (Wdo_142 hW) ?_
        refine And.intro ⟨by omega, Nat.le_of_ble_eq_true rfl, Nat.le_refl _, Nat.le_refl _⟩ (And.intro (Wdo_142 hW) ?_)
        refine C250 (m := (uI (uI m 0 0 (nI 5)) 142 0 (nI 0))) (by omega) hW (LN_u (LN_u ln10 (by decide)) (by decide)) (by omega) ?_
        refine And.intro (fun cr6 => False.elim (absurd (bi_ne0.mp cz3) (bi_eq0.mp cr6))) (fun cr6 => ?_)
        refine And.intro ⟨by omega, Nat.le_of_ble_eq_true rfl, Nat.le_refl _, Nat.le_refl _⟩ (And.intro (Wdo_142 hW) ?_)
        refine C247 (m := (uI (uI m 0 0 (nI 5)) 142 0 (nI 0))) (by omega) hW (LN_u (LN_u ln4 (by decide)) (by decide)) (by omega) ?_
        refine And.intro (fun cr10 => ?_) (fun cr10 => False.elim (absurd (bi_ne0.mp cz7) (bi_eq0.mp cr10)))
        refine And.intro (Wdo_142 hW) (Exists.intro _ (And.intro (Wdr_142_18 hW) ?_))
        have er20 : nI 43 + nI v = nI (43 + v) := by simp only [nI_add, pk_mul]
        refine And.intro (Wdi_145 hW (vi er20 (by omega))) ?_
        rw [vc er20 (by omega)]
        rw [uI_ne (m := (uI m 0 0 (nI 5))) (a := 142) (b := 145) (by omega)]
        rw [uI_ne (m := m) (a := 0) (b := 145) (by omega)]
        rw [show mI m 145 (43 + v) = mI m (20 + 3) v from hX.2.1.2.2.2.1 v (by omega)]
        refine And.intro (fun cr22 => False.elim (absurd (cz18) cr22)) (fun cr22 => ?_)
        refine And.intro ⟨by omega, Nat.le_of_ble_eq_true rfl, Nat.le_refl _, Nat.le_refl _⟩ (And.intro (Wdo_142 hW) ?_)
        refine C201 (m := (uI (uI m 0 0 (nI 5)) 142 0 (nI 0))) (by omega) hW ?_
        refine And.intro ⟨rfl, Or.inl rfl, Nat.le_refl _, Nat.le_refl _⟩ ?_
        exact h2 _ (Rel_ans hR (by decide))
    · -- 7 not: bi (iR y n4r) = 0
      refine And.intro ⟨by omega, Nat.le_of_ble_eq_true rfl, Nat.le_refl _, Nat.le_refl _⟩ (And.intro (Wdo_0 hW) ?_)
      refine C178 hW ?_
      refine And.intro ⟨rfl, Or.inl rfl, Nat.le_refl _, Nat.le_refl _⟩ ?_
      refine h _ _ hW (fun Q2 h2 => ?_)
      refine ent (n := 98) z327 (by decide) rfl (by decide) (Nat.le_of_ble_eq_true rfl) (fun sc2 => ?_)
      refine And.intro (Wdo_142 hW) ?_
      refine And.intro ⟨by omega, Nat.le_of_ble_eq_true rfl, Nat.le_refl _, Nat.le_refl _⟩ (And.intro (Wdo_142 hW) ?_)
      refine C250 (m := (uI (uI m 0 0 (nI 1)) 142 0 (nI 0))) (by omega) hW (LN_u (LN_u ln10 (by decide)) (by decide)) (by omega) ?_
      refine And.intro (fun cr6 => False.elim (absurd (bi_ne0.mp cz3) (bi_eq0.mp cr6))) (fun cr6 => ?_)
      refine And.intro ⟨by omega, Nat.le_of_ble_eq_true rfl, Nat.le_refl _, Nat.le_refl _⟩ (And.intro (Wdo_142 hW) ?_)
      refine C247 (m := (uI (uI m 0 0 (nI 1)) 142 0 (nI 0))) (by omega) hW (LN_u (LN_u ln4 (by decide)) (by decide)) (by omega) ?_
      refine And.intro (fun cr10 => False.elim (absurd (bi_ne0.mp cr10) (bi_eq0.mp cz7))) (fun cr10 => ?_)
      refine And.intro ⟨by omega, Nat.le_of_ble_eq_true rfl, Nat.le_refl _, Nat.le_refl _⟩ (And.intro (Wdo_142 hW) ?_)
      refine C201 (m := (uI (uI m 0 0 (nI 1)) 142 0 (nI 0))) (by omega) hW ?_
      refine And.intro ⟨rfl, Or.inl rfl, Nat.le_refl _, Nat.le_refl _⟩ ?_
      exact h2 _ (Rel_ans hR (by decide))
theorem P_send {d : Nat} {m : Mm} {Q : Option Value → Mm → Prop} {z : Nat} {v x y : Int32} (hd : 16 ≤ d) (hR : Rel z m) (h : ∀ (r : Int32) m1, Wd m1.2.2 → (∀ Q2 : Option Value → Mm → Prop, (∀ m2, Rel z m2 → Q2 (some (.int r)) m2) → Cc d 0 0 326 [.ref 142, .int x, .int y, .int v] m1 Q2) → Q (some (.int r)) m1) : Cc d 0 0 162 [.ref 0, .int x, .int y, .int v] m Q := by
  obtain ⟨hW, hz, hS, a, b, hA, hX⟩ := id hR
  obtain ⟨hL, hLb, hab, ha, hb⟩ := RelA_L hW hA
  obtain ⟨n2r, hn2, bn2, ln2⟩ := RL_n (s := 2) (f := 5) hX.2.2.1 (by decide) (fun _ _ h => h.2.2.2.2.2.1)
  change n2r ≤ 6 at bn2
  obtain ⟨n4r, hn4, bn4, ln4⟩ := RL_n (s := 4) (f := 6) hX.2.2.1 (by decide) (fun _ _ h => h.2.2.2.2.2.2.1)
  change n4r ≤ 6 at bn4
  obtain ⟨n8r, hn8, bn8, ln8⟩ := RL_n (s := 8) (f := 10) hX.2.2.1 (by decide) (fun _ _ h => h.2.2.2.2.2.2.2.2.2.2.1)
  change n8r ≤ 8 at bn8
  obtain ⟨n10r, hn10, bn10, ln10⟩ := RL_n (s := 10) (f := 12) hX.2.2.1 (by decide) (fun _ _ h => h.2.2.2.2.2.2.2.2.2.2.2.2.1)
  change n10r ≤ 4 at bn10
  obtain ⟨fk, wk, yk, hf, hw, hy, hp2, hp3, hp4, hp21, hp22, hc9, hc10⟩ := id hX.2.2.2.1
  refine ent (n := 108) z162 (by decide) rfl (by decide) (Nat.le_of_ble_eq_true rfl) (fun sc => ?_)
  refine And.intro ⟨by omega, Nat.le_of_ble_eq_true rfl, Nat.le_refl _, Nat.le_refl _⟩ (And.intro (Wdo_0 hW) ?_)
  refine C181 (by omega) hW ha hL hn4 (by omega) ?_
  refine And.intro (fun cz3 => ?_) (fun cz3 => ?_)
  · -- 3 taken: bi (iR x n4r) = 0
    refine And.intro ⟨by omega, Nat.le_of_ble_eq_true rfl, Nat.le_refl _, Nat.le_refl _⟩ (And.intro (Wdo_0 hW) ?_)
    refine C178 hW ?_
    refine And.intro ⟨rfl, Or.inl rfl, Nat.le_refl _, Nat.le_refl _⟩ ?_
    refine h _ _ hW (fun Q2 h2 => ?_)
    refine ent (n := 134) z326 (by decide) rfl (by decide) (Nat.le_of_ble_eq_true rfl) (fun sc2 => ?_)
    refine And.intro (Wdo_142 hW) ?_
    refine And.intro ⟨by omega, Nat.le_of_ble_eq_true rfl, Nat.le_refl _, Nat.le_refl _⟩ (And.intro (Wdo_142 hW) ?_)
    refine C247 (m := (uI (uI m 0 0 (nI 1)) 142 0 (nI 0))) (by omega) hW (LN_u (LN_u ln4 (by decide)) (by decide)) (by omega) ?_
    refine And.intro (fun cr6 => ?_) (fun cr6 => False.elim (absurd (bi_ne0.mp cr6) (bi_eq0.mp cz3)))
    refine And.intro ⟨by omega, Nat.le_of_ble_eq_true rfl, Nat.le_refl _, Nat.le_refl _⟩ (And.intro (Wdo_142 hW) ?_)
    refine C201 (m := (uI (uI m 0 0 (nI 1)) 142 0 (nI 0))) (by omega) hW ?_
    refine And.intro ⟨rfl, Or.inl rfl, Nat.le_refl _, Nat.le_refl _⟩ ?_
    exact h2 _ (Rel_ans hR (by decide))
  · -- 3 not: ¬ bi (iR x n4r) = 0
    refine And.intro ⟨by omega, Nat.le_of_ble_eq_true rfl, Nat.le_refl _, Nat.le_refl _⟩ (And.intro (Wdo_0 hW) ?_)
    refine C182 (by omega) hW ha hL hn2 (by omega) ?_
    refine And.intro (fun cz7 => ?_) (fun cz7 => ?_)
    · -- 7 taken: bi (iR y n2r) = 0
      refine And.intro ⟨by omega, Nat.le_of_ble_eq_true rfl, Nat.le_refl _, Nat.le_refl _⟩ (And.intro (Wdo_0 hW) ?_)
      refine C178 hW ?_
      refine And.intro ⟨rfl, Or.inl rfl, Nat.le_refl _, Nat.le_refl _⟩ ?_
      refine h _ _ hW (fun Q2 h2 => ?_)
      refine ent (n := 134) z326 (by decide) rfl (by decide) (Nat.le_of_ble_eq_true rfl) (fun sc2 => ?_)
      refine And.intro (Wdo_142 hW) ?_
      refine And.intro ⟨by omega, Nat.le_of_ble_eq_true rfl, Nat.le_refl _, Nat.le_refl _⟩ (And.intro (Wdo_142 hW) ?_)
      refine C247 (m := (uI (uI m 0 0 (nI 1)) 142 0 (nI 0))) (by omega) hW (LN_u (LN_u ln4 (by decide)) (by decide)) (by omega) ?_
      refine And.intro (fun cr6 => False.elim (absurd (bi_ne0.mp cz3) (bi_eq0.mp cr6))) (fun cr6 => ?_)
      refine And.intro ⟨by omega, Nat.le_of_ble_eq_true rfl, Nat.le_refl _, Nat.le_refl _⟩ (And.intro (Wdo_142 hW) ?_)
      refine C248 (m := (uI (uI m 0 0 (nI 1)) 142 0 (nI 0))) (by omega) hW (LN_u (LN_u ln2 (by decide)) (by decide)) (by omega) ?_
      refine And.intro (fun cr10 => ?_) (fun cr10 => False.elim (absurd (bi_ne0.mp cr10) (bi_eq0.mp cz7)))
      refine And.intro ⟨by omega, Nat.le_of_ble_eq_true rfl, Nat.le_refl _, Nat.le_refl _⟩ (And.intro (Wdo_142 hW) ?_)
      refine C201 (m := (uI (uI m 0 0 (nI 1)) 142 0 (nI 0))) (by omega) hW ?_
      refine And.intro ⟨rfl, Or.inl rfl, Nat.le_refl _, Nat.le_refl _⟩ ?_
      exact h2 _ (Rel_ans hR (by decide))
    · -- 7 not: ¬ bi (iR y n2r) = 0
      refine And.intro (fun cz10 => ?_) (fun cz10 => ?_)
      · -- 10 taken: v = -nI 2
        obtain ⟨g, hg, rfl⟩ := bi_ne0.mp cz3
        obtain ⟨t, ht, rfl⟩ := bi_ne0.mp cz7
        obtain ⟨q, hq1⟩ := RL_1 (s := 4) hX.2.2.1 (by decide) hn4 (show 0 < n4r by omega) (by omega)
        have hqq := hq1
        obtain ⟨hq, w, u, ha0, ha1, hq0, hq1w, hw6, hu4, hwu, hgr⟩ := RL_q hq1
        obtain ⟨h158, hqz, hN, h3, ⟨T, hI⟩, hst, hla, hLQ, hSR⟩ := hq1
        have hq6 : mI m q 6 = nI n4r := hLQ.1.2.2.2.2.2.2.1.trans hn4
        have hq5 : mI m q 5 = nI n2r := hLQ.1.2.2.2.2.2.1.trans hn2
        refine And.intro (fun cz21 => ?_) (fun cz21 => ?_)
        · -- 21 taken: v = nI g
          refine And.intro ⟨by omega, Nat.le_of_ble_eq_true rfl, Nat.le_refl _, Nat.le_refl _⟩ (And.intro (Wdo_0 hW) ?_)
          refine C178 hW ?_
          refine And.intro ⟨rfl, Or.inl rfl, Nat.le_refl _, Nat.le_refl _⟩ ?_
          refine h _ _ hW (fun Q2 h2 => ?_)
          refine ent (n := 134) z326 (by decide) rfl (by decide) (Nat.le_of_ble_eq_true rfl) (fun sc2 => ?_)
          refine And.intro (Wdo_142 hW) ?_
          refine And.intro ⟨by omega, Nat.le_of_ble_eq_true rfl, Nat.le_refl _, Nat.le_refl _⟩ (And.intro (Wdo_142 hW) ?_)
          refine C247 (m := (uI (uI m 0 0 (nI 5)) 142 0 (nI 0))) (by omega) hW (LN_u (LN_u ln4 (by decide)) (by decide)) (by omega) ?_
          refine And.intro (fun cr6 => False.elim (absurd (bi_ne0.mp cz3) (bi_eq0.mp cr6))) (fun cr6 => ?_)
          refine And.intro ⟨by omega, Nat.le_of_ble_eq_true rfl, Nat.le_refl _, Nat.le_refl _⟩ (And.intro (Wdo_142 hW) ?_)
          refine C248 (m := (uI (uI m 0 0 (nI 5)) 142 0 (nI 0))) (by omega) hW (LN_u (LN_u ln2 (by decide)) (by decide)) (by omega) ?_
          refine And.intro (fun cr10 => False.elim (absurd (bi_ne0.mp cz7) (bi_eq0.mp cr10))) (fun cr10 => ?_)
          refine And.intro (fun cr13 => ?_) (fun cr13 => False.elim (absurd (cz10) cr13))
          refine And.intro (fun cr24 => ?_) (fun cr24 => False.elim (absurd (cz21) cr24))
          refine And.intro ⟨by omega, Nat.le_of_ble_eq_true rfl, Nat.le_refl _, Nat.le_refl _⟩ (And.intro (Wdo_142 hW) ?_)
          refine C201 (m := (uI (uI m 0 0 (nI 5)) 142 0 (nI 0))) (by omega) hW ?_
          refine And.intro ⟨rfl, Or.inl rfl, Nat.le_refl _, Nat.le_refl _⟩ ?_
          exact h2 _ (Rel_ans hR (by decide))
        · -- 21 not: ¬ v = nI g
          refine And.intro (Wdo_0 hW) (Exists.intro _ (And.intro (Wdr_0_4 hW) ?_))
          refine And.intro ⟨by omega, Nat.le_of_ble_eq_true rfl, Nat.le_refl _, Nat.le_refl _⟩ (And.intro (SWo_0 (Wd_S hW)) ?_)
          refine C103 (b := 20) (g := g) (t := t) (Wd_S hW) (by omega) (by omega) ?_
          refine And.intro (fun cz28 => ?_) (fun cz28 => ?_)
          · -- 28 taken: ¬ mI m (20 + 2) (g * 6 + t) = v
            refine And.intro ⟨by omega, Nat.le_of_ble_eq_true rfl, Nat.le_refl _, Nat.le_refl _⟩ (And.intro (Wdo_0 hW) ?_)
            refine C187 (f := fk) (w := wk) (by omega) hW hf hw hp2 hp3 (fun m9 hak a22 => ?_)
            have hmod : (fk + wk) % 12 < 12 := Nat.mod_lt _ (by decide)
            have hW0 := hW
            have hW : Wd m9.2.2 := by rw [a22]; exact hW0
            have hak8 : ∀ r, 158 ≤ r → mI m9 r = mI m r := fun r hr => hak.1 r (by omega) (by omega)
            have ln2 := LN_m ln2 a22 hak8
            have ln4 := LN_m ln4 a22 hak8
            have ln8 := LN_m ln8 a22 hak8
            have ln10 := LN_m ln10 a22 hak8
            have hq : va_rf (mR m9 142 3) = .ref q := by rw [show mR m9 = mR m from congrArg (fun w : WR => w.1) a22]; exact hq
            have hN : NW m9.2.2 q := by rw [a22]; exact hN
            have ha : va_rf (mR m9 0 3) = .ref a := by rw [show mR m9 = mR m from congrArg (fun w : WR => w.1) a22]; exact ha
            refine And.intro (Wdo_0 hW) (Exists.intro _ (And.intro (Wdr_0_4 hW) ?_))
            refine And.intro ⟨by omega, Nat.le_of_ble_eq_true rfl, Nat.le_refl _, Nat.le_refl _⟩ (And.intro (SWo_0 (Wd_S hW)) ?_)
            refine C104 (m := (uI m9 0 12 (nI 1))) (b := 20) (g := g) (t := t) (Wd_S hW) (by omega) (by omega) ?_
            refine And.intro ⟨by omega, Nat.le_of_ble_eq_true rfl, Nat.le_refl _, Nat.le_refl _⟩ (And.intro (Wdo_0 hW) ?_)
            refine C179 (m := (uI (uI m9 0 12 (nI 1)) (20 + 2) (g * 6 + t) v)) hW ?_
            refine And.intro ⟨rfl, Or.inr rfl, Nat.le_refl _, Nat.le_refl _⟩ ?_
            refine h _ _ hW (fun Q2 h2 => ?_)
            refine ent (n := 134) z326 (by decide) rfl (by decide) (Nat.le_of_ble_eq_true rfl) (fun sc2 => ?_)
            refine And.intro (Wdo_142 hW) ?_
            refine And.intro ⟨by omega, Nat.le_of_ble_eq_true rfl, Nat.le_refl _, Nat.le_refl _⟩ (And.intro (Wdo_142 hW) ?_)
            refine C247 (m := (uI (uI (uI (uI m9 0 12 (nI 1)) (20 + 2) (g * 6 + t) v) 0 0 (nI 0)) 142 0 (nI 0))) (by omega) hW (LN_u (LN_u (LN_u (LN_u ln4 (by decide)) (by decide)) (by decide)) (by decide)) (by omega) ?_
            refine And.intro (fun cr6 => False.elim (absurd (bi_ne0.mp cz3) (bi_eq0.mp cr6))) (fun cr6 => ?_)
            refine And.intro ⟨by omega, Nat.le_of_ble_eq_true rfl, Nat.le_refl _, Nat.le_refl _⟩ (And.intro (Wdo_142 hW) ?_)
            refine C248 (m := (uI (uI (uI (uI m9 0 12 (nI 1)) (20 + 2) (g * 6 + t) v) 0 0 (nI 0)) 142 0 (nI 0))) (by omega) hW (LN_u (LN_u (LN_u (LN_u ln2 (by decide)) (by decide)) (by decide)) (by decide)) (by omega) ?_
            refine And.intro (fun cr10 => False.elim (absurd (bi_ne0.mp cz7) (bi_eq0.mp cr10))) (fun cr10 => ?_)
            refine And.intro (fun cr13 => ?_) (fun cr13 => False.elim (absurd (cz10) cr13))
            refine And.intro (fun cr24 => False.elim (absurd cr24 (cz21))) (fun cr24 => ?_)
            refine And.intro (Wdo_142 hW) (Exists.intro _ (And.intro (Wdr_142_18 hW) ?_))
            refine And.intro (Wdi_145 hW (vi (by simp only [nI_add, pk_mul]; rw [show 7 + 6 * g + t = 7 + (g * 6 + t) by omega]) (by omega))) ?_
            rw [vc (by simp only [nI_add, pk_mul]; rw [show 7 + 6 * g + t = 7 + (g * 6 + t) by omega]) (by omega)]
            rw [uI_ne (m := (uI (uI (uI m9 0 12 (nI 1)) (20 + 2) (g * 6 + t) v) 0 0 (nI 0))) (a := 142) (b := 145) (by omega)]
            rw [uI_ne (m := (uI (uI m9 0 12 (nI 1)) (20 + 2) (g * 6 + t) v)) (a := 0) (b := 145) (by omega)]
            rw [uI_ne (m := (uI m9 0 12 (nI 1))) (a := (20 + 2)) (b := 145) (by omega)]
            rw [uI_ne (m := m9) (a := 0) (b := 145) (by omega)]
            rw [hak.1 145 (by decide) (by omega), show mI m 145 (7 + (g * 6 + t)) = mI m (20 + 2) (g * 6 + t) from hX.2.1.2.2.1 _ (by omega)]
            refine And.intro (fun cr36 => ?_) (fun cr36 => False.elim (absurd cr36 (cz28)))
            refine And.intro ⟨by omega, Nat.le_of_ble_eq_true rfl, Nat.le_refl _, Nat.le_refl _⟩ (And.intro (Wdo_142 hW) ?_)
            refine C322 (m := (uI (uI (uI (uI m9 0 12 (nI 1)) (20 + 2) (g * 6 + t) v) 0 0 (nI 0)) 142 0 (nI 0))) (w := wk) hW hw (by rw [uI_eq, upd_o (by decide), uI_ne (by decide), uI_ne (by decide), uI_ne (by decide), hak.1 142 (by decide) (by omega)]; exact hp21) (fun m8 hke hkk => ?_)
            have hW8 : Wd m8.2.2 := by rw [hkk]; exact hW
            have hW := hW8
            refine And.intro (Wdo_142 hW) (Exists.intro _ (And.intro (Wdr_142_18 hW) ?_))
            refine And.intro (Wdi_145 hW (vi (by simp only [nI_add, pk_mul]; rw [show 7 + 6 * g + t = 7 + (g * 6 + t) by omega]) (by omega))) ?_
            rw [vc (by simp only [nI_add, pk_mul]; rw [show 7 + 6 * g + t = 7 + (g * 6 + t) by omega]) (by omega)]
            refine And.intro ⟨by omega, Nat.le_of_ble_eq_true rfl, Nat.le_refl _, Nat.le_refl _⟩ (And.intro (Wdo_142 hW) ?_)
            refine C203 (m := (uI m8 145 ((7 + (g * 6 + t))) v)) (by omega) hW ?_
            refine And.intro ⟨rfl, Or.inr rfl, Nat.le_refl _, Nat.le_refl _⟩ ?_
            have er145 : mI m8 145 = mI m 145 := by rw [hke.1 145 (by decide) (by decide), uI_ne (by decide), uI_ne (by decide), uI_ne (by decide), uI_ne (by decide), hak.1 145 (by decide) (by omega)]
            have hb4 : nv (lam m a 1 4) ≤ 6 := (hI.1 4 (by decide)).2
            have hb10 : nv (lam m a 1 10) ≤ 4 := (hI.1 10 (by decide)).2
            have hn20 : ∀ r, r < 30 → mI (uI (uI (uI m8 145 ((7 + (g * 6 + t))) v) 142 1 (nI 0)) 142 2 (-nI 1)) r = mI (uI (uI (uI m9 0 12 (nI 1)) (20 + 2) (g * 6 + t) v) 0 0 (nI 0)) r := fun r hr => by rw [uI_ne (by omega), uI_ne (by omega), uI_ne (by omega), hke.1 r (by omega) (by omega), uI_ne (by omega)]
            have hn145 : mI (uI (uI (uI m8 145 ((7 + (g * 6 + t))) v) 142 1 (nI 0)) 142 2 (-nI 1)) 145 = upd (mI m 145) (7 + (g * 6 + t)) v := by rw [uI_ne (by decide), uI_ne (by decide), uI_eq, er145]
            have es0 : mI (uI (uI (uI m9 0 12 (nI 1)) (20 + 2) (g * 6 + t) v) 0 0 (nI 0)) 20 = mI m 20 := by rw [uI_ne (by decide), uI_ne (by decide), uI_ne (by decide), hak.1 20 (by decide) (by omega)]
            have es1 : mI (uI (uI (uI m9 0 12 (nI 1)) (20 + 2) (g * 6 + t) v) 0 0 (nI 0)) (20 + 1) = mI m (20 + 1) := by rw [uI_ne (by decide), uI_ne (by decide), uI_ne (by decide), hak.1 (20 + 1) (by decide) (by omega)]
            have es2 : mI (uI (uI (uI m9 0 12 (nI 1)) (20 + 2) (g * 6 + t) v) 0 0 (nI 0)) (20 + 2) = upd (mI m (20 + 2)) (g * 6 + t) v := by rw [uI_ne (by decide), uI_eq, uI_ne (by decide), hak.1 (20 + 2) (by decide) (by omega)]
            have es3 : mI (uI (uI (uI m9 0 12 (nI 1)) (20 + 2) (g * 6 + t) v) 0 0 (nI 0)) (20 + 3) = mI m (20 + 3) := by rw [uI_ne (by decide), uI_ne (by decide), uI_ne (by decide), hak.1 (20 + 3) (by decide) (by omega)]
            have hnv4 : nv (lam m a 1 4) = n4r := by show nv (mI m (a + 1) 4) = _; rw [hn4, nv_nI (by omega)]
            have hsv : SV (mI (uI (uI (uI m9 0 12 (nI 1)) (20 + 2) (g * 6 + t) v) 0 0 (nI 0))) 20 (upd (mI m 145) (7 + (g * 6 + t)) v) := SV_s (by omega) hX.2.1 es0 es1 es2 es3
            refine h2 _ (Rel_act (m9 := m9) (g := (uI (uI (uI m9 0 12 (nI 1)) (20 + 2) (g * 6 + t) v) 0 0 (nI 0))) (m8 := m8) hW0 hz hS hA hX hqq hf hw hy hp4 hp22 hc9 hc10 hak a22 (by rw [uI_22, uI_22, uI_22]) (fun r h0 h1 => by rw [uI_ne h0, uI_ne (by omega), uI_ne h0]) (by rw [uI_eq, upd_e]) (by rw [uI_eq, upd_o (by decide), uI_ne (by decide), uI_eq, upd_o (by decide)]) (by rw [uI_eq, upd_o (by decide), uI_ne (by decide), uI_eq, upd_e]) hke hkk (by rw [uI_22, uI_22, uI_22]) (fun r h1 h2 => by rw [uI_ne h1, uI_ne h1, uI_ne h2]) (by rw [uI_eq, upd_o (by decide), uI_eq, upd_e]) (by rw [uI_eq, upd_e]) (fun x h1 h2 => by rw [uI_eq, upd_o h2, uI_eq, upd_o h1, uI_ne (by decide)]) ?_ ?_)
            · rw [hn145]
              exact SV_m hsv (fun _ _ => rfl) (by rw [hn20 20 (by decide)]) (by rw [hn20 20 (by decide)]) (fun x _ => by rw [hn20 (20 + 1) (by decide)]) (fun x _ => by rw [hn20 (20 + 2) (by decide)]) (fun x _ => by rw [hn20 (20 + 3) (by decide)])
            · have hsr := SR_s (J := mI (uI (uI (uI m9 0 12 (nI 1)) (20 + 2) (g * 6 + t) v) 0 0 (nI 0))) hSR (Or.inl cz10) es0 es1 es2 es3
              exact SR_m hsr hb4 hb10 (by rw [hn20 20 (by decide)]) (fun x _ => by rw [hn20 (20 + 1) (by decide)]) (fun x _ => by rw [hn20 (20 + 2) (by decide)]) (fun x _ => by rw [hn20 (20 + 3) (by decide)])
          · -- 28 not: mI m (20 + 2) (g * 6 + t) = v
            refine And.intro ⟨by omega, Nat.le_of_ble_eq_true rfl, Nat.le_refl _, Nat.le_refl _⟩ (And.intro (Wdo_0 hW) ?_)
            refine C178 hW ?_
            refine And.intro ⟨rfl, Or.inl rfl, Nat.le_refl _, Nat.le_refl _⟩ ?_
            refine h _ _ hW (fun Q2 h2 => ?_)
            refine ent (n := 134) z326 (by decide) rfl (by decide) (Nat.le_of_ble_eq_true rfl) (fun sc2 => ?_)
            refine And.intro (Wdo_142 hW) ?_
            refine And.intro ⟨by omega, Nat.le_of_ble_eq_true rfl, Nat.le_refl _, Nat.le_refl _⟩ (And.intro (Wdo_142 hW) ?_)
            refine C247 (m := (uI (uI m 0 0 (nI 5)) 142 0 (nI 0))) (by omega) hW (LN_u (LN_u ln4 (by decide)) (by decide)) (by omega) ?_
            refine And.intro (fun cr6 => False.elim (absurd (bi_ne0.mp cz3) (bi_eq0.mp cr6))) (fun cr6 => ?_)
            refine And.intro ⟨by omega, Nat.le_of_ble_eq_true rfl, Nat.le_refl _, Nat.le_refl _⟩ (And.intro (Wdo_142 hW) ?_)
            refine C248 (m := (uI (uI m 0 0 (nI 5)) 142 0 (nI 0))) (by omega) hW (LN_u (LN_u ln2 (by decide)) (by decide)) (by omega) ?_
            refine And.intro (fun cr10 => False.elim (absurd (bi_ne0.mp cz7) (bi_eq0.mp cr10))) (fun cr10 => ?_)
            refine And.intro (fun cr13 => ?_) (fun cr13 => False.elim (absurd (cz10) cr13))
            refine And.intro (fun cr24 => False.elim (absurd cr24 (cz21))) (fun cr24 => ?_)
            refine And.intro (Wdo_142 hW) (Exists.intro _ (And.intro (Wdr_142_18 hW) ?_))
            refine And.intro (Wdi_145 hW (vi (by simp only [nI_add, pk_mul]; rw [show 7 + 6 * g + t = 7 + (g * 6 + t) by omega]) (by omega))) ?_
            rw [vc (by simp only [nI_add, pk_mul]; rw [show 7 + 6 * g + t = 7 + (g * 6 + t) by omega]) (by omega)]
            rw [uI_ne (m := (uI m 0 0 (nI 5))) (a := 142) (b := 145) (by omega)]
            rw [uI_ne (m := m) (a := 0) (b := 145) (by omega)]
            rw [show mI m 145 (7 + (g * 6 + t)) = mI m (20 + 2) (g * 6 + t) from hX.2.1.2.2.1 _ (by omega)]
            refine And.intro (fun cr36 => False.elim (absurd (cz28) cr36)) (fun cr36 => ?_)
            refine And.intro ⟨by omega, Nat.le_of_ble_eq_true rfl, Nat.le_refl _, Nat.le_refl _⟩ (And.intro (Wdo_142 hW) ?_)
            refine C201 (m := (uI (uI m 0 0 (nI 5)) 142 0 (nI 0))) (by omega) hW ?_
            refine And.intro ⟨rfl, Or.inl rfl, Nat.le_refl _, Nat.le_refl _⟩ ?_
            exact h2 _ (Rel_ans hR (by decide))
      · -- 10 not: ¬ v = -nI 2
        refine And.intro ⟨by omega, Nat.le_of_ble_eq_true rfl, Nat.le_refl _, Nat.le_refl _⟩ (And.intro (Wdo_0 hW) ?_)
        refine C181 (by omega) hW ha hL hn4 (by omega) ?_
        refine And.intro (fun cz14 => ?_) (fun cz14 => ?_)
        · -- 14 taken: ¬ bi (iR v n4r) = 0
          obtain ⟨g, hg, rfl⟩ := bi_ne0.mp cz3
          obtain ⟨t, ht, rfl⟩ := bi_ne0.mp cz7
          obtain ⟨q, hq1⟩ := RL_1 (s := 4) hX.2.2.1 (by decide) hn4 (show 0 < n4r by omega) (by omega)
          have hqq := hq1
          obtain ⟨hq, w, u, ha0, ha1, hq0, hq1w, hw6, hu4, hwu, hgr⟩ := RL_q hq1
          obtain ⟨h158, hqz, hN, h3, ⟨T, hI⟩, hst, hla, hLQ, hSR⟩ := hq1
          have hq6 : mI m q 6 = nI n4r := hLQ.1.2.2.2.2.2.2.1.trans hn4
          have hq5 : mI m q 5 = nI n2r := hLQ.1.2.2.2.2.2.1.trans hn2
          refine And.intro (fun cz21 => ?_) (fun cz21 => ?_)
          · -- 21 taken: v = nI g
            refine And.intro ⟨by omega, Nat.le_of_ble_eq_true rfl, Nat.le_refl _, Nat.le_refl _⟩ (And.intro (Wdo_0 hW) ?_)
            refine C178 hW ?_
            refine And.intro ⟨rfl, Or.inl rfl, Nat.le_refl _, Nat.le_refl _⟩ ?_
            refine h _ _ hW (fun Q2 h2 => ?_)
            refine ent (n := 134) z326 (by decide) rfl (by decide) (Nat.le_of_ble_eq_true rfl) (fun sc2 => ?_)
            refine And.intro (Wdo_142 hW) ?_
            refine And.intro ⟨by omega, Nat.le_of_ble_eq_true rfl, Nat.le_refl _, Nat.le_refl _⟩ (And.intro (Wdo_142 hW) ?_)
            refine C247 (m := (uI (uI m 0 0 (nI 5)) 142 0 (nI 0))) (by omega) hW (LN_u (LN_u ln4 (by decide)) (by decide)) (by omega) ?_
            refine And.intro (fun cr6 => False.elim (absurd (bi_ne0.mp cz3) (bi_eq0.mp cr6))) (fun cr6 => ?_)
            refine And.intro ⟨by omega, Nat.le_of_ble_eq_true rfl, Nat.le_refl _, Nat.le_refl _⟩ (And.intro (Wdo_142 hW) ?_)
            refine C248 (m := (uI (uI m 0 0 (nI 5)) 142 0 (nI 0))) (by omega) hW (LN_u (LN_u ln2 (by decide)) (by decide)) (by omega) ?_
            refine And.intro (fun cr10 => False.elim (absurd (bi_ne0.mp cz7) (bi_eq0.mp cr10))) (fun cr10 => ?_)
            refine And.intro (fun cr13 => False.elim (absurd cr13 (cz10))) (fun cr13 => ?_)
            refine And.intro ⟨by omega, Nat.le_of_ble_eq_true rfl, Nat.le_refl _, Nat.le_refl _⟩ (And.intro (Wdo_142 hW) ?_)
            refine C247 (m := (uI (uI m 0 0 (nI 5)) 142 0 (nI 0))) (by omega) hW (LN_u (LN_u ln4 (by decide)) (by decide)) (by omega) ?_
            refine And.intro (fun cr17 => ?_) (fun cr17 => False.elim (absurd (bi_ne0.mp cz14) (bi_eq0.mp cr17)))
            refine And.intro (fun cr24 => ?_) (fun cr24 => False.elim (absurd (cz21) cr24))
            refine And.intro ⟨by omega, Nat.le_of_ble_eq_true rfl, Nat.le_refl _, Nat.le_refl _⟩ (And.intro (Wdo_142 hW) ?_)
            refine C201 (m := (uI (uI m 0 0 (nI 5)) 142 0 (nI 0))) (by omega) hW ?_
            refine And.intro ⟨rfl, Or.inl rfl, Nat.le_refl _, Nat.le_refl _⟩ ?_
            exact h2 _ (Rel_ans hR (by decide))
          · -- 21 not: ¬ v = nI g
            refine And.intro (Wdo_0 hW) (Exists.intro _ (And.intro (Wdr_0_4 hW) ?_))
            refine And.intro ⟨by omega, Nat.le_of_ble_eq_true rfl, Nat.le_refl _, Nat.le_refl _⟩ (And.intro (SWo_0 (Wd_S hW)) ?_)
            refine C103 (b := 20) (g := g) (t := t) (Wd_S hW) (by omega) (by omega) ?_
            refine And.intro (fun cz28 => ?_) (fun cz28 => ?_)
            · -- 28 taken: ¬ mI m (20 + 2) (g * 6 + t) = v
              refine And.intro ⟨by omega, Nat.le_of_ble_eq_true rfl, Nat.le_refl _, Nat.le_refl _⟩ (And.intro (Wdo_0 hW) ?_)
              refine C187 (f := fk) (w := wk) (by omega) hW hf hw hp2 hp3 (fun m9 hak a22 => ?_)
              have hmod : (fk + wk) % 12 < 12 := Nat.mod_lt _ (by decide)
              have hW0 := hW
              have hW : Wd m9.2.2 := by rw [a22]; exact hW0
              have hak8 : ∀ r, 158 ≤ r → mI m9 r = mI m r := fun r hr => hak.1 r (by omega) (by omega)
              have ln2 := LN_m ln2 a22 hak8
              have ln4 := LN_m ln4 a22 hak8
              have ln8 := LN_m ln8 a22 hak8
              have ln10 := LN_m ln10 a22 hak8
              have hq : va_rf (mR m9 142 3) = .ref q := by rw [show mR m9 = mR m from congrArg (fun w : WR => w.1) a22]; exact hq
              have hN : NW m9.2.2 q := by rw [a22]; exact hN
              have ha : va_rf (mR m9 0 3) = .ref a := by rw [show mR m9 = mR m from congrArg (fun w : WR => w.1) a22]; exact ha
              refine And.intro (Wdo_0 hW) (Exists.intro _ (And.intro (Wdr_0_4 hW) ?_))
              refine And.intro ⟨by omega, Nat.le_of_ble_eq_true rfl, Nat.le_refl _, Nat.le_refl _⟩ (And.intro (SWo_0 (Wd_S hW)) ?_)
              refine C104 (m := (uI m9 0 12 (nI 1))) (b := 20) (g := g) (t := t) (Wd_S hW) (by omega) (by omega) ?_
              refine And.intro ⟨by omega, Nat.le_of_ble_eq_true rfl, Nat.le_refl _, Nat.le_refl _⟩ (And.intro (Wdo_0 hW) ?_)
              refine C179 (m := (uI (uI m9 0 12 (nI 1)) (20 + 2) (g * 6 + t) v)) hW ?_
              refine And.intro ⟨rfl, Or.inr rfl, Nat.le_refl _, Nat.le_refl _⟩ ?_
              refine h _ _ hW (fun Q2 h2 => ?_)
              refine ent (n := 134) z326 (by decide) rfl (by decide) (Nat.le_of_ble_eq_true rfl) (fun sc2 => ?_)
              refine And.intro (Wdo_142 hW) ?_
              refine And.intro ⟨by omega, Nat.le_of_ble_eq_true rfl, Nat.le_refl _, Nat.le_refl _⟩ (And.intro (Wdo_142 hW) ?_)
              refine C247 (m := (uI (uI (uI (uI m9 0 12 (nI 1)) (20 + 2) (g * 6 + t) v) 0 0 (nI 0)) 142 0 (nI 0))) (by omega) hW (LN_u (LN_u (LN_u (LN_u ln4 (by decide)) (by decide)) (by decide)) (by decide)) (by omega) ?_
              refine And.intro (fun cr6 => False.elim (absurd (bi_ne0.mp cz3) (bi_eq0.mp cr6))) (fun cr6 => ?_)
              refine And.intro ⟨by omega, Nat.le_of_ble_eq_true rfl, Nat.le_refl _, Nat.le_refl _⟩ (And.intro (Wdo_142 hW) ?_)
              refine C248 (m := (uI (uI (uI (uI m9 0 12 (nI 1)) (20 + 2) (g * 6 + t) v) 0 0 (nI 0)) 142 0 (nI 0))) (by omega) hW (LN_u (LN_u (LN_u (LN_u ln2 (by decide)) (by decide)) (by decide)) (by decide)) (by omega) ?_
              refine And.intro (fun cr10 => False.elim (absurd (bi_ne0.mp cz7) (bi_eq0.mp cr10))) (fun cr10 => ?_)
              refine And.intro (fun cr13 => False.elim (absurd cr13 (cz10))) (fun cr13 => ?_)
              refine And.intro ⟨by omega, Nat.le_of_ble_eq_true rfl, Nat.le_refl _, Nat.le_refl _⟩ (And.intro (Wdo_142 hW) ?_)
              refine C247 (m := (uI (uI (uI (uI m9 0 12 (nI 1)) (20 + 2) (g * 6 + t) v) 0 0 (nI 0)) 142 0 (nI 0))) (by omega) hW (LN_u (LN_u (LN_u (LN_u ln4 (by decide)) (by decide)) (by decide)) (by decide)) (by omega) ?_
              refine And.intro (fun cr17 => ?_) (fun cr17 => False.elim (absurd (bi_ne0.mp cz14) (bi_eq0.mp cr17)))
              refine And.intro (fun cr24 => False.elim (absurd cr24 (cz21))) (fun cr24 => ?_)
              refine And.intro (Wdo_142 hW) (Exists.intro _ (And.intro (Wdr_142_18 hW) ?_))
              refine And.intro (Wdi_145 hW (vi (by simp only [nI_add, pk_mul]; rw [show 7 + 6 * g + t = 7 + (g * 6 + t) by omega]) (by omega))) ?_
              rw [vc (by simp only [nI_add, pk_mul]; rw [show 7 + 6 * g + t = 7 + (g * 6 + t) by omega]) (by omega)]
              rw [uI_ne (m := (uI (uI (uI m9 0 12 (nI 1)) (20 + 2) (g * 6 + t) v) 0 0 (nI 0))) (a := 142) (b := 145) (by omega)]
              rw [uI_ne (m := (uI (uI m9 0 12 (nI 1)) (20 + 2) (g * 6 + t) v)) (a := 0) (b := 145) (by omega)]
              rw [uI_ne (m := (uI m9 0 12 (nI 1))) (a := (20 + 2)) (b := 145) (by omega)]
              rw [uI_ne (m := m9) (a := 0) (b := 145) (by omega)]
              rw [hak.1 145 (by decide) (by omega), show mI m 145 (7 + (g * 6 + t)) = mI m (20 + 2) (g * 6 + t) from hX.2.1.2.2.1 _ (by omega)]
              refine And.intro (fun cr36 => ?_) (fun cr36 => False.elim (absurd cr36 (cz28)))
              refine And.intro ⟨by omega, Nat.le_of_ble_eq_true rfl, Nat.le_refl _, Nat.le_refl _⟩ (And.intro (Wdo_142 hW) ?_)
              refine C322 (m := (uI (uI (uI (uI m9 0 12 (nI 1)) (20 + 2) (g * 6 + t) v) 0 0 (nI 0)) 142 0 (nI 0))) (w := wk) hW hw (by rw [uI_eq, upd_o (by decide), uI_ne (by decide), uI_ne (by decide), uI_ne (by decide), hak.1 142 (by decide) (by omega)]; exact hp21) (fun m8 hke hkk => ?_)
              have hW8 : Wd m8.2.2 := by rw [hkk]; exact hW
              have hW := hW8
              refine And.intro (Wdo_142 hW) (Exists.intro _ (And.intro (Wdr_142_18 hW) ?_))
              refine And.intro (Wdi_145 hW (vi (by simp only [nI_add, pk_mul]; rw [show 7 + 6 * g + t = 7 + (g * 6 + t) by omega]) (by omega))) ?_
              rw [vc (by simp only [nI_add, pk_mul]; rw [show 7 + 6 * g + t = 7 + (g * 6 + t) by omega]) (by omega)]
              refine And.intro ⟨by omega, Nat.le_of_ble_eq_true rfl, Nat.le_refl _, Nat.le_refl _⟩ (And.intro (Wdo_142 hW) ?_)
              refine C203 (m := (uI m8 145 ((7 + (g * 6 + t))) v)) (by omega) hW ?_
              refine And.intro ⟨rfl, Or.inr rfl, Nat.le_refl _, Nat.le_refl _⟩ ?_
              have er145 : mI m8 145 = mI m 145 := by rw [hke.1 145 (by decide) (by decide), uI_ne (by decide), uI_ne (by decide), uI_ne (by decide), uI_ne (by decide), hak.1 145 (by decide) (by omega)]
              have hb4 : nv (lam m a 1 4) ≤ 6 := (hI.1 4 (by decide)).2
              have hb10 : nv (lam m a 1 10) ≤ 4 := (hI.1 10 (by decide)).2
              have hn20 : ∀ r, r < 30 → mI (uI (uI (uI m8 145 ((7 + (g * 6 + t))) v) 142 1 (nI 0)) 142 2 (-nI 1)) r = mI (uI (uI (uI m9 0 12 (nI 1)) (20 + 2) (g * 6 + t) v) 0 0 (nI 0)) r := fun r hr => by rw [uI_ne (by omega), uI_ne (by omega), uI_ne (by omega), hke.1 r (by omega) (by omega), uI_ne (by omega)]
              have hn145 : mI (uI (uI (uI m8 145 ((7 + (g * 6 + t))) v) 142 1 (nI 0)) 142 2 (-nI 1)) 145 = upd (mI m 145) (7 + (g * 6 + t)) v := by rw [uI_ne (by decide), uI_ne (by decide), uI_eq, er145]
              have es0 : mI (uI (uI (uI m9 0 12 (nI 1)) (20 + 2) (g * 6 + t) v) 0 0 (nI 0)) 20 = mI m 20 := by rw [uI_ne (by decide), uI_ne (by decide), uI_ne (by decide), hak.1 20 (by decide) (by omega)]
              have es1 : mI (uI (uI (uI m9 0 12 (nI 1)) (20 + 2) (g * 6 + t) v) 0 0 (nI 0)) (20 + 1) = mI m (20 + 1) := by rw [uI_ne (by decide), uI_ne (by decide), uI_ne (by decide), hak.1 (20 + 1) (by decide) (by omega)]
              have es2 : mI (uI (uI (uI m9 0 12 (nI 1)) (20 + 2) (g * 6 + t) v) 0 0 (nI 0)) (20 + 2) = upd (mI m (20 + 2)) (g * 6 + t) v := by rw [uI_ne (by decide), uI_eq, uI_ne (by decide), hak.1 (20 + 2) (by decide) (by omega)]
              have es3 : mI (uI (uI (uI m9 0 12 (nI 1)) (20 + 2) (g * 6 + t) v) 0 0 (nI 0)) (20 + 3) = mI m (20 + 3) := by rw [uI_ne (by decide), uI_ne (by decide), uI_ne (by decide), hak.1 (20 + 3) (by decide) (by omega)]
              have hnv4 : nv (lam m a 1 4) = n4r := by show nv (mI m (a + 1) 4) = _; rw [hn4, nv_nI (by omega)]
              have hsv : SV (mI (uI (uI (uI m9 0 12 (nI 1)) (20 + 2) (g * 6 + t) v) 0 0 (nI 0))) 20 (upd (mI m 145) (7 + (g * 6 + t)) v) := SV_s (by omega) hX.2.1 es0 es1 es2 es3
              refine h2 _ (Rel_act (m9 := m9) (g := (uI (uI (uI m9 0 12 (nI 1)) (20 + 2) (g * 6 + t) v) 0 0 (nI 0))) (m8 := m8) hW0 hz hS hA hX hqq hf hw hy hp4 hp22 hc9 hc10 hak a22 (by rw [uI_22, uI_22, uI_22]) (fun r h0 h1 => by rw [uI_ne h0, uI_ne (by omega), uI_ne h0]) (by rw [uI_eq, upd_e]) (by rw [uI_eq, upd_o (by decide), uI_ne (by decide), uI_eq, upd_o (by decide)]) (by rw [uI_eq, upd_o (by decide), uI_ne (by decide), uI_eq, upd_e]) hke hkk (by rw [uI_22, uI_22, uI_22]) (fun r h1 h2 => by rw [uI_ne h1, uI_ne h1, uI_ne h2]) (by rw [uI_eq, upd_o (by decide), uI_eq, upd_e]) (by rw [uI_eq, upd_e]) (fun x h1 h2 => by rw [uI_eq, upd_o h2, uI_eq, upd_o h1, uI_ne (by decide)]) ?_ ?_)
              · rw [hn145]
                exact SV_m hsv (fun _ _ => rfl) (by rw [hn20 20 (by decide)]) (by rw [hn20 20 (by decide)]) (fun x _ => by rw [hn20 (20 + 1) (by decide)]) (fun x _ => by rw [hn20 (20 + 2) (by decide)]) (fun x _ => by rw [hn20 (20 + 3) (by decide)])
              · have hsr := SR_s (J := mI (uI (uI (uI m9 0 12 (nI 1)) (20 + 2) (g * 6 + t) v) 0 0 (nI 0))) hSR (Or.inr (by rw [hnv4]; exact bi_ne0.mp cz14)) es0 es1 es2 es3
                exact SR_m hsr hb4 hb10 (by rw [hn20 20 (by decide)]) (fun x _ => by rw [hn20 (20 + 1) (by decide)]) (fun x _ => by rw [hn20 (20 + 2) (by decide)]) (fun x _ => by rw [hn20 (20 + 3) (by decide)])
            · -- 28 not: mI m (20 + 2) (g * 6 + t) = v
              refine And.intro ⟨by omega, Nat.le_of_ble_eq_true rfl, Nat.le_refl _, Nat.le_refl _⟩ (And.intro (Wdo_0 hW) ?_)
              refine C178 hW ?_
              refine And.intro ⟨rfl, Or.inl rfl, Nat.le_refl _, Nat.le_refl _⟩ ?_
              refine h _ _ hW (fun Q2 h2 => ?_)
              refine ent (n := 134) z326 (by decide) rfl (by decide) (Nat.le_of_ble_eq_true rfl) (fun sc2 => ?_)
              refine And.intro (Wdo_142 hW) ?_
              refine And.intro ⟨by omega, Nat.le_of_ble_eq_true rfl, Nat.le_refl _, Nat.le_refl _⟩ (And.intro (Wdo_142 hW) ?_)
              refine C247 (m := (uI (uI m 0 0 (nI 5)) 142 0 (nI 0))) (by omega) hW (LN_u (LN_u ln4 (by decide)) (by decide)) (by omega) ?_
              refine And.intro (fun cr6 => False.elim (absurd (bi_ne0.mp cz3) (bi_eq0.mp cr6))) (fun cr6 => ?_)
              refine And.intro ⟨by omega, Nat.le_of_ble_eq_true rfl, Nat.le_refl _, Nat.le_refl _⟩ (And.intro (Wdo_142 hW) ?_)
              refine C248 (m := (uI (uI m 0 0 (nI 5)) 142 0 (nI 0))) (by omega) hW (LN_u (LN_u ln2 (by decide)) (by decide)) (by omega) ?_
              refine And.intro (fun cr10 => False.elim (absurd (bi_ne0.mp cz7) (bi_eq0.mp cr10))) (fun cr10 => ?_)
              refine And.intro (fun cr13 => False.elim (absurd cr13 (cz10))) (fun cr13 => ?_)
              refine And.intro ⟨by omega, Nat.le_of_ble_eq_true rfl, Nat.le_refl _, Nat.le_refl _⟩ (And.intro (Wdo_142 hW) ?_)
              refine C247 (m := (uI (uI m 0 0 (nI 5)) 142 0 (nI 0))) (by omega) hW (LN_u (LN_u ln4 (by decide)) (by decide)) (by omega) ?_
              refine And.intro (fun cr17 => ?_) (fun cr17 => False.elim (absurd (bi_ne0.mp cz14) (bi_eq0.mp cr17)))
              refine And.intro (fun cr24 => False.elim (absurd cr24 (cz21))) (fun cr24 => ?_)
              refine And.intro (Wdo_142 hW) (Exists.intro _ (And.intro (Wdr_142_18 hW) ?_))
              refine And.intro (Wdi_145 hW (vi (by simp only [nI_add, pk_mul]; rw [show 7 + 6 * g + t = 7 + (g * 6 + t) by omega]) (by omega))) ?_
              rw [vc (by simp only [nI_add, pk_mul]; rw [show 7 + 6 * g + t = 7 + (g * 6 + t) by omega]) (by omega)]
              rw [uI_ne (m := (uI m 0 0 (nI 5))) (a := 142) (b := 145) (by omega)]
              rw [uI_ne (m := m) (a := 0) (b := 145) (by omega)]
              rw [show mI m 145 (7 + (g * 6 + t)) = mI m (20 + 2) (g * 6 + t) from hX.2.1.2.2.1 _ (by omega)]
              refine And.intro (fun cr36 => False.elim (absurd (cz28) cr36)) (fun cr36 => ?_)
              refine And.intro ⟨by omega, Nat.le_of_ble_eq_true rfl, Nat.le_refl _, Nat.le_refl _⟩ (And.intro (Wdo_142 hW) ?_)
              refine C201 (m := (uI (uI m 0 0 (nI 5)) 142 0 (nI 0))) (by omega) hW ?_
              refine And.intro ⟨rfl, Or.inl rfl, Nat.le_refl _, Nat.le_refl _⟩ ?_
              exact h2 _ (Rel_ans hR (by decide))
        · -- 14 not: bi (iR v n4r) = 0
          refine And.intro ⟨by omega, Nat.le_of_ble_eq_true rfl, Nat.le_refl _, Nat.le_refl _⟩ (And.intro (Wdo_0 hW) ?_)
          refine C178 hW ?_
          refine And.intro ⟨rfl, Or.inl rfl, Nat.le_refl _, Nat.le_refl _⟩ ?_
          refine h _ _ hW (fun Q2 h2 => ?_)
          refine ent (n := 134) z326 (by decide) rfl (by decide) (Nat.le_of_ble_eq_true rfl) (fun sc2 => ?_)
          refine And.intro (Wdo_142 hW) ?_
          refine And.intro ⟨by omega, Nat.le_of_ble_eq_true rfl, Nat.le_refl _, Nat.le_refl _⟩ (And.intro (Wdo_142 hW) ?_)
          refine C247 (m := (uI (uI m 0 0 (nI 1)) 142 0 (nI 0))) (by omega) hW (LN_u (LN_u ln4 (by decide)) (by decide)) (by omega) ?_
          refine And.intro (fun cr6 => False.elim (absurd (bi_ne0.mp cz3) (bi_eq0.mp cr6))) (fun cr6 => ?_)
          refine And.intro ⟨by omega, Nat.le_of_ble_eq_true rfl, Nat.le_refl _, Nat.le_refl _⟩ (And.intro (Wdo_142 hW) ?_)
          refine C248 (m := (uI (uI m 0 0 (nI 1)) 142 0 (nI 0))) (by omega) hW (LN_u (LN_u ln2 (by decide)) (by decide)) (by omega) ?_
          refine And.intro (fun cr10 => False.elim (absurd (bi_ne0.mp cz7) (bi_eq0.mp cr10))) (fun cr10 => ?_)
          refine And.intro (fun cr13 => False.elim (absurd cr13 (cz10))) (fun cr13 => ?_)
          refine And.intro ⟨by omega, Nat.le_of_ble_eq_true rfl, Nat.le_refl _, Nat.le_refl _⟩ (And.intro (Wdo_142 hW) ?_)
          refine C247 (m := (uI (uI m 0 0 (nI 1)) 142 0 (nI 0))) (by omega) hW (LN_u (LN_u ln4 (by decide)) (by decide)) (by omega) ?_
          refine And.intro (fun cr17 => False.elim (absurd (bi_ne0.mp cr17) (bi_eq0.mp cz14))) (fun cr17 => ?_)
          refine And.intro ⟨by omega, Nat.le_of_ble_eq_true rfl, Nat.le_refl _, Nat.le_refl _⟩ (And.intro (Wdo_142 hW) ?_)
          refine C201 (m := (uI (uI m 0 0 (nI 1)) 142 0 (nI 0))) (by omega) hW ?_
          refine And.intro ⟨rfl, Or.inl rfl, Nat.le_refl _, Nat.le_refl _⟩ ?_
          exact h2 _ (Rel_ans hR (by decide))
