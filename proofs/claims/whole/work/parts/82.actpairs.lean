theorem LN_m {m n : Mm} {f v : Nat} (h : LN m f v) (h22 : n.2.2 = m.2.2) (hr : ∀ r, 158 ≤ r → mI n r = mI m r) : LN n f v := by
  have eR : mR n = mR m := congrArg (fun w : WR => w.1) h22
  rcases h with h | ⟨q, h1, h2, h3, h4⟩
  · exact Or.inl ⟨by rw [eR]; exact h.1, h.2⟩
  · exact Or.inr ⟨q, h1, by rw [eR]; exact h2, by rw [h22]; exact h3, by rw [hr q h1]; exact h4⟩
theorem SV_l {I J : Nat → Nat → Int32} {v : Nat → Int32} {s : Int32} (h : SV I 20 v) (ez0 : J 20 = upd (I 20) 1 (I 20 1 ^^^ s)) (ez1 : J (20 + 1) = I (20 + 1)) (ez2 : J (20 + 2) = I (20 + 2)) (ez3 : J (20 + 3) = I (20 + 3)) : SV J 20 (upd v 0 (v 0 ^^^ s)) := by
  obtain ⟨h0, h1, h2, h3, h4⟩ := h
  refine ⟨?_, fun x hx => ?_, fun x hx => ?_, fun x hx => ?_, ?_⟩
  · rw [upd_e, ez0, upd_e, h0]
  · rw [upd_o (by omega), ez1, h1 x hx]
  · rw [upd_o (by omega), ez2, h2 x hx]
  · rw [upd_o (by omega), ez3, h3 x hx]
  · rw [upd_o (by decide), ez0, upd_o (by decide), h4]
theorem SV_p {I J : Nat → Nat → Int32} {v : Nat → Int32} {s : Int32} {g : Nat} (hg : g < 6) (h : SV I 20 v) (ez0 : J 20 = I 20) (ez1 : J (20 + 1) = upd (I (20 + 1)) g s) (ez2 : J (20 + 2) = I (20 + 2)) (ez3 : J (20 + 3) = I (20 + 3)) : SV J 20 (upd v (1 + g) s) := by
  obtain ⟨h0, h1, h2, h3, h4⟩ := h
  refine ⟨?_, fun x hx => ?_, fun x hx => ?_, fun x hx => ?_, ?_⟩
  · rw [upd_o (by omega), ez0, h0]
  · rw [ez1]
    by_cases e : x = g
    · rw [e, upd_e, upd_e]
    · rw [upd_o (by omega), upd_o e, h1 x hx]
  · rw [upd_o (by omega), ez2, h2 x hx]
  · rw [upd_o (by omega), ez3, h3 x hx]
  · rw [upd_o (by omega), ez0, h4]
theorem SV_s {I J : Nat → Nat → Int32} {v : Nat → Int32} {s : Int32} {g : Nat} (hg : g < 36) (h : SV I 20 v) (ez0 : J 20 = I 20) (ez1 : J (20 + 1) = I (20 + 1)) (ez2 : J (20 + 2) = upd (I (20 + 2)) g s) (ez3 : J (20 + 3) = I (20 + 3)) : SV J 20 (upd v (7 + g) s) := by
  obtain ⟨h0, h1, h2, h3, h4⟩ := h
  refine ⟨?_, fun x hx => ?_, fun x hx => ?_, fun x hx => ?_, ?_⟩
  · rw [upd_o (by omega), ez0, h0]
  · rw [upd_o (by omega), ez1, h1 x hx]
  · rw [ez2]
    by_cases e : x = g
    · rw [e, upd_e, upd_e]
    · rw [upd_o (by omega), upd_o e, h2 x hx]
  · rw [upd_o (by omega), ez3, h3 x hx]
  · rw [upd_o (by omega), ez0, h4]
theorem SV_k {I J : Nat → Nat → Int32} {v : Nat → Int32} {s : Int32} {g : Nat} (hg : g < 4) (h : SV I 20 v) (ez0 : J 20 = I 20) (ez1 : J (20 + 1) = I (20 + 1)) (ez2 : J (20 + 2) = I (20 + 2)) (ez3 : J (20 + 3) = upd (I (20 + 3)) g s) : SV J 20 (upd v (43 + g) s) := by
  obtain ⟨h0, h1, h2, h3, h4⟩ := h
  refine ⟨?_, fun x hx => ?_, fun x hx => ?_, fun x hx => ?_, ?_⟩
  · rw [upd_o (by omega), ez0, h0]
  · rw [upd_o (by omega), ez1, h1 x hx]
  · rw [upd_o (by omega), ez2, h2 x hx]
  · rw [ez3]
    by_cases e : x = g
    · rw [e, upd_e, upd_e]
    · rw [upd_o (by omega), upd_o e, h3 x hx]
  · rw [upd_o (by omega), ez0, h4]
theorem SR_r {Λ I J : Nat → Nat → Int32} (h : SR Λ I 20) (ez0 : iR (J 20 0) 65537) (ez1 : ∀ g, g < nv (Λ 1 4) → iR (J (20 + 1) g) 100) (ez2 : ∀ x, x < 36 → J (20 + 2) x = -nI 2 ∨ iR (J (20 + 2) x) (nv (Λ 1 4))) (ez3 : ∀ x, x < nv (Λ 1 10) → iR (J (20 + 3) x) (nv (Λ 1 4))) : SR Λ J 20 := ⟨ez0, ez1, ez2, ez3⟩
theorem P_sleep {d : Nat} {m : Mm} {Q : Option Value → Mm → Prop} {z : Nat} {x y : Int32} (hd : 16 ≤ d) (hR : Rel z m) (h : ∀ (r : Int32) m1, Wd m1.2.2 → (∀ Q2 : Option Value → Mm → Prop, (∀ m2, Rel z m2 → Q2 (some (.int r)) m2) → Cc d 0 0 323 [.ref 142, .int x, .int y] m1 Q2) → Q (some (.int r)) m1) : Cc d 0 0 159 [.ref 0, .int x, .int y] m Q := by
  obtain ⟨hW, hz, hS, a, b, hA, hX⟩ := id hR
  obtain ⟨hL, hLb, hab, ha, hb⟩ := RelA_L hW hA
  obtain ⟨n2r, hn2, bn2, ln2⟩ := RL_n (s := 2) (f := 5) hX.2.2.1 (by decide) (fun _ _ h => h.2.2.2.2.2.1)
  change n2r ≤ 6 at bn2
  obtain ⟨n4r, hn4, bn4, ln4⟩ := RL_n (s := 4) (f := 6) hX.2.2.1 (by decide) (fun _ _ h => h.2.2.2.2.2.2.1)
  change n4r ≤ 6 at bn4
  obtain ⟨n8r, hn8, bn8, ln8⟩ := RL_n (s := 8) (f := 10) hX.2.2.1 (by decide) (fun _ _ h => h.2.2.2.2.2.2.2.2.2.2.1)
  change n8r ≤ 8 at bn8
  obtain ⟨n10r, hn10, bn10, ln10⟩ := RL_n (s := 10) (f := 12) hX.2.2.1 (by decide) (fun _ _ h => h.2.2.2.2.2.2.2.2.2.2.2.2.1)
  change n10r ≤ 4 at bn10
  obtain ⟨fk, wk, yk, hf, hw, hy, hp2, hp3, hp4, hp21, hp22, hc9, hc10⟩ := id hX.2.2.2.1
  refine ent (n := 74) z159 (by decide) rfl (by decide) (Nat.le_of_ble_eq_true rfl) (fun sc => ?_)
  refine And.intro ⟨by omega, Nat.le_of_ble_eq_true rfl, Nat.le_refl _, Nat.le_refl _⟩ (And.intro (Wdo_0 hW) ?_)
  refine C181 (by omega) hW ha hL hn4 (by omega) ?_
  refine And.intro (fun cz3 => ?_) (fun cz3 => ?_)
  · -- 3 taken: ¬ bi (iR x n4r) = 0
    obtain ⟨g, hg, rfl⟩ := bi_ne0.mp cz3
    obtain ⟨q, hq1⟩ := RL_1 (s := 4) hX.2.2.1 (by decide) hn4 (show 0 < n4r by omega) (by omega)
    have hqq := hq1
    obtain ⟨hq, w, u, ha0, ha1, hq0, hq1w, hw6, hu4, hwu, hgr⟩ := RL_q hq1
    obtain ⟨h158, hqz, hN, h3, ⟨T, hI⟩, hst, hla, hLQ, hSR⟩ := hq1
    have hq6 : mI m q 6 = nI n4r := hLQ.1.2.2.2.2.2.2.1.trans hn4
    have hq5 : mI m q 5 = nI n2r := hLQ.1.2.2.2.2.2.1.trans hn2
    refine And.intro (Wdo_0 hW) (Exists.intro _ (And.intro (Wdr_0_4 hW) ?_))
    refine And.intro ⟨by omega, Nat.le_of_ble_eq_true rfl, Nat.le_refl _, Nat.le_refl _⟩ (And.intro (SWo_0 (Wd_S hW)) ?_)
    refine C100 (b := 20) (Wd_S hW) ?_
    refine And.intro (fun cz13 => ?_) (fun cz13 => ?_)
    · -- 13 taken: ¬ bi (bq (mI m 20 1) (nI g)) = y
      refine And.intro ⟨by omega, Nat.le_of_ble_eq_true rfl, Nat.le_refl _, Nat.le_refl _⟩ (And.intro (Wdo_0 hW) ?_)
      refine C187 (f := fk) (w := wk) (by omega) hW hf hw hp2 hp3 (fun m9 hak a22 => ?_)
      have hmod : (fk + wk) % 12 < 12 := Nat.mod_lt _ (by decide)
      have hW0 := hW
      have hW : Wd m9.2.2 := by rw [a22]; exact hW0
      have hak8 : ∀ r, 158 ≤ r → mI m9 r = mI m r := fun r hr => hak.1 r (by omega) (by omega)
      have ln2 := LN_m ln2 a22 hak8
      have ln4 := LN_m ln4 a22 hak8
      have ln8 := LN_m ln8 a22 hak8
      have ln10 := LN_m ln10 a22 hak8
      have hq : va_rf (mR m9 142 3) = .ref q := by rw [show mR m9 = mR m from congrArg (fun w : WR => w.1) a22]; exact hq
      have hN : NW m9.2.2 q := by rw [a22]; exact hN
      have ha : va_rf (mR m9 0 3) = .ref a := by rw [show mR m9 = mR m from congrArg (fun w : WR => w.1) a22]; exact ha
      refine And.intro (Wdo_0 hW) (Exists.intro _ (And.intro (Wdr_0_4 hW) ?_))
      refine And.intro ⟨by omega, Nat.le_of_ble_eq_true rfl, Nat.le_refl _, Nat.le_refl _⟩ (And.intro (SWo_0 (Wd_S hW)) ?_)
      refine C101 (m := (uI m9 0 12 (nI 1))) (b := 20) (Wd_S hW) ?_
      refine And.intro ⟨by omega, Nat.le_of_ble_eq_true rfl, Nat.le_refl _, Nat.le_refl _⟩ (And.intro (Wdo_0 hW) ?_)
      refine C179 (m := (uI (uI m9 0 12 (nI 1)) 20 1 (mI (uI m9 0 12 (nI 1)) 20 1 ^^^ nI 1 <<< (nI g &&& 31)))) hW ?_
      refine And.intro ⟨rfl, Or.inr rfl, Nat.le_refl _, Nat.le_refl _⟩ ?_
      refine h _ _ hW (fun Q2 h2 => ?_)
      refine ent (n := 96) z323 (by decide) rfl (by decide) (Nat.le_of_ble_eq_true rfl) (fun sc2 => ?_)
      refine And.intro (Wdo_142 hW) ?_
      refine And.intro ⟨by omega, Nat.le_of_ble_eq_true rfl, Nat.le_refl _, Nat.le_refl _⟩ (And.intro (Wdo_142 hW) ?_)
      refine C247 (m := (uI (uI (uI (uI m9 0 12 (nI 1)) 20 1 (mI (uI m9 0 12 (nI 1)) 20 1 ^^^ nI 1 <<< (nI g &&& 31))) 0 0 (nI 0)) 142 0 (nI 0))) (by omega) hW (LN_u (LN_u (LN_u (LN_u ln4 (by decide)) (by decide)) (by decide)) (by decide)) (by omega) ?_
      refine And.intro (fun cr6 => ?_) (fun cr6 => False.elim (absurd (bi_ne0.mp cz3) (bi_eq0.mp cr6)))
      refine And.intro (Wdo_142 hW) (Exists.intro _ (And.intro (Wdr_142_18 hW) ?_))
      refine And.intro (Wdi_145 hW (vi rfl (by omega))) ?_
      rw [nI_clamp (show 0 < 2 ^ 31 by omega)]
      rw [uI_ne (m := (uI (uI (uI m9 0 12 (nI 1)) 20 1 (mI (uI m9 0 12 (nI 1)) 20 1 ^^^ nI 1 <<< (nI g &&& 31))) 0 0 (nI 0))) (a := 142) (b := 145) (by omega)]
      rw [uI_ne (m := (uI (uI m9 0 12 (nI 1)) 20 1 (mI (uI m9 0 12 (nI 1)) 20 1 ^^^ nI 1 <<< (nI g &&& 31)))) (a := 0) (b := 145) (by omega)]
      rw [uI_ne (m := (uI m9 0 12 (nI 1))) (a := 20) (b := 145) (by omega)]
      rw [uI_ne (m := m9) (a := 0) (b := 145) (by omega)]
      rw [hak.1 145 (by decide) (by omega), show mI m 145 0 = mI m 20 1 from hX.2.1.1]
      refine And.intro ⟨by omega, Nat.le_of_ble_eq_true rfl, Nat.le_refl _, Nat.le_refl _⟩ ?_
      refine C205 (m := (uI (uI (uI (uI m9 0 12 (nI 1)) 20 1 (mI (uI m9 0 12 (nI 1)) 20 1 ^^^ nI 1 <<< (nI g &&& 31))) 0 0 (nI 0)) 142 0 (nI 0))) ?_
      refine And.intro (fun cr18 => ?_) (fun cr18 => False.elim (absurd cr18 (cz13)))
      refine And.intro ⟨by omega, Nat.le_of_ble_eq_true rfl, Nat.le_refl _, Nat.le_refl _⟩ (And.intro (Wdo_142 hW) ?_)
      refine C322 (m := (uI (uI (uI (uI m9 0 12 (nI 1)) 20 1 (mI (uI m9 0 12 (nI 1)) 20 1 ^^^ nI 1 <<< (nI g &&& 31))) 0 0 (nI 0)) 142 0 (nI 0))) (w := wk) hW hw (by rw [uI_eq, upd_o (by decide), uI_ne (by decide), uI_ne (by decide), uI_ne (by decide), hak.1 142 (by decide) (by omega)]; exact hp21) (fun m8 hke hkk => ?_)
      have hW8 : Wd m8.2.2 := by rw [hkk]; exact hW
      have hW := hW8
      refine And.intro (Wdo_142 hW) (Exists.intro _ (And.intro (Wdr_142_18 hW) ?_))
      refine And.intro ⟨rfl, rfl⟩ ?_
      refine And.intro (Wdi_145 hW (vi rfl (by omega))) ?_
      rw [nI_clamp (show 0 < 2 ^ 31 by omega)]
      refine And.intro (Wdi_145 hW (vi rfl (by omega))) ?_
      rw [nI_clamp (show 0 < 2 ^ 31 by omega)]
      refine And.intro ⟨by omega, Nat.le_of_ble_eq_true rfl, Nat.le_refl _, Nat.le_refl _⟩ (And.intro (Wdo_142 hW) ?_)
      refine C203 (m := (uI m8 145 0 ((mI m8 145 0) ^^^ (nI 1 <<< (nI g &&& 31))))) (by omega) hW ?_
      refine And.intro ⟨rfl, Or.inr rfl, Nat.le_refl _, Nat.le_refl _⟩ ?_
      have er145 : mI m8 145 = mI m 145 := by rw [hke.1 145 (by decide) (by decide), uI_ne (by decide), uI_ne (by decide), uI_ne (by decide), uI_ne (by decide), hak.1 145 (by decide) (by omega)]
      have hb4 : nv (lam m a 1 4) ≤ 6 := (hI.1 4 (by decide)).2
      have hb10 : nv (lam m a 1 10) ≤ 4 := (hI.1 10 (by decide)).2
      have hn20 : ∀ r, r < 30 → mI (uI (uI (uI m8 145 0 ((mI m8 145 0) ^^^ (nI 1 <<< (nI g &&& 31)))) 142 1 (nI 0)) 142 2 (-nI 1)) r = mI (uI (uI (uI m9 0 12 (nI 1)) 20 1 (mI (uI m9 0 12 (nI 1)) 20 1 ^^^ nI 1 <<< (nI g &&& 31))) 0 0 (nI 0)) r := fun r hr => by rw [uI_ne (by omega), uI_ne (by omega), uI_ne (by omega), hke.1 r (by omega) (by omega), uI_ne (by omega)]
      have hn145 : mI (uI (uI (uI m8 145 0 ((mI m8 145 0) ^^^ (nI 1 <<< (nI g &&& 31)))) 142 1 (nI 0)) 142 2 (-nI 1)) 145 = upd (mI m 145) 0 (mI m 145 0 ^^^ (nI 1 <<< (nI g &&& 31))) := by rw [uI_ne (by decide), uI_ne (by decide), uI_eq, er145]
      have es0 : mI (uI (uI (uI m9 0 12 (nI 1)) 20 1 (mI (uI m9 0 12 (nI 1)) 20 1 ^^^ nI 1 <<< (nI g &&& 31))) 0 0 (nI 0)) 20 = upd (mI m 20) 1 (mI m 20 1 ^^^ (nI 1 <<< (nI g &&& 31))) := by rw [uI_ne (by decide), uI_eq, uI_ne (by decide), hak.1 20 (by decide) (by omega)]
      have es1 : mI (uI (uI (uI m9 0 12 (nI 1)) 20 1 (mI (uI m9 0 12 (nI 1)) 20 1 ^^^ nI 1 <<< (nI g &&& 31))) 0 0 (nI 0)) (20 + 1) = mI m (20 + 1) := by rw [uI_ne (by decide), uI_ne (by decide), uI_ne (by decide), hak.1 (20 + 1) (by decide) (by omega)]
      have es2 : mI (uI (uI (uI m9 0 12 (nI 1)) 20 1 (mI (uI m9 0 12 (nI 1)) 20 1 ^^^ nI 1 <<< (nI g &&& 31))) 0 0 (nI 0)) (20 + 2) = mI m (20 + 2) := by rw [uI_ne (by decide), uI_ne (by decide), uI_ne (by decide), hak.1 (20 + 2) (by decide) (by omega)]
      have es3 : mI (uI (uI (uI m9 0 12 (nI 1)) 20 1 (mI (uI m9 0 12 (nI 1)) 20 1 ^^^ nI 1 <<< (nI g &&& 31))) 0 0 (nI 0)) (20 + 3) = mI m (20 + 3) := by rw [uI_ne (by decide), uI_ne (by decide), uI_ne (by decide), hak.1 (20 + 3) (by decide) (by omega)]
      have hsv : SV (mI (uI (uI (uI m9 0 12 (nI 1)) 20 1 (mI (uI m9 0 12 (nI 1)) 20 1 ^^^ nI 1 <<< (nI g &&& 31))) 0 0 (nI 0))) 20 (upd (mI m 145) 0 (mI m 145 0 ^^^ (nI 1 <<< (nI g &&& 31)))) := SV_l hX.2.1 es0 es1 es2 es3
      refine h2 _ (Rel_act (m9 := m9) (g := (uI (uI (uI m9 0 12 (nI 1)) 20 1 (mI (uI m9 0 12 (nI 1)) 20 1 ^^^ nI 1 <<< (nI g &&& 31))) 0 0 (nI 0))) (m8 := m8) hW0 hz hS hA hX hqq hf hw hy hp4 hp22 hc9 hc10 hak a22 (by rw [uI_22, uI_22, uI_22]) (fun r h0 h1 => by rw [uI_ne h0, uI_ne (by omega), uI_ne h0]) (by rw [uI_eq, upd_e]) (by rw [uI_eq, upd_o (by decide), uI_ne (by decide), uI_eq, upd_o (by decide)]) (by rw [uI_eq, upd_o (by decide), uI_ne (by decide), uI_eq, upd_e]) hke hkk (by rw [uI_22, uI_22, uI_22]) (fun r h1 h2 => by rw [uI_ne h1, uI_ne h1, uI_ne h2]) (by rw [uI_eq, upd_o (by decide), uI_eq, upd_e]) (by rw [uI_eq, upd_e]) (fun x h1 h2 => by rw [uI_eq, upd_o h2, uI_eq, upd_o h1, uI_ne (by decide)]) ?_ ?_)
      · rw [hn145]
        exact SV_m hsv (fun _ _ => rfl) (by rw [hn20 20 (by decide)]) (by rw [hn20 20 (by decide)]) (fun x _ => by rw [hn20 (20 + 1) (by decide)]) (fun x _ => by rw [hn20 (20 + 2) (by decide)]) (fun x _ => by rw [hn20 (20 + 3) (by decide)])
      · have hsr := SR_m (J := mI (uI (uI (uI m9 0 12 (nI 1)) 20 1 (mI (uI m9 0 12 (nI 1)) 20 1 ^^^ nI 1 <<< (nI g &&& 31))) 0 0 (nI 0))) hSR hb4 hb10 (by rw [es0, upd_o (by decide)]) (fun x _ => by rw [es1]) (fun x _ => by rw [es2]) (fun x _ => by rw [es3])
        exact SR_m hsr hb4 hb10 (by rw [hn20 20 (by decide)]) (fun x _ => by rw [hn20 (20 + 1) (by decide)]) (fun x _ => by rw [hn20 (20 + 2) (by decide)]) (fun x _ => by rw [hn20 (20 + 3) (by decide)])
    · -- 13 not: bi (bq (mI m 20 1) (nI g)) = y
      refine And.intro ⟨by omega, Nat.le_of_ble_eq_true rfl, Nat.le_refl _, Nat.le_refl _⟩ (And.intro (Wdo_0 hW) ?_)
      refine C178 hW ?_
      refine And.intro ⟨rfl, Or.inl rfl, Nat.le_refl _, Nat.le_refl _⟩ ?_
      refine h _ _ hW (fun Q2 h2 => ?_)
      refine ent (n := 96) z323 (by decide) rfl (by decide) (Nat.le_of_ble_eq_true rfl) (fun sc2 => ?_)
      refine And.intro (Wdo_142 hW) ?_
      refine And.intro ⟨by omega, Nat.le_of_ble_eq_true rfl, Nat.le_refl _, Nat.le_refl _⟩ (And.intro (Wdo_142 hW) ?_)
      refine C247 (m := (uI (uI m 0 0 (nI 5)) 142 0 (nI 0))) (by omega) hW (LN_u (LN_u ln4 (by decide)) (by decide)) (by omega) ?_
      refine And.intro (fun cr6 => ?_) (fun cr6 => False.elim (absurd (bi_ne0.mp cz3) (bi_eq0.mp cr6)))
      refine And.intro (Wdo_142 hW) (Exists.intro _ (And.intro (Wdr_142_18 hW) ?_))
      refine And.intro (Wdi_145 hW (vi rfl (by omega))) ?_
      rw [nI_clamp (show 0 < 2 ^ 31 by omega)]
      rw [uI_ne (m := (uI m 0 0 (nI 5))) (a := 142) (b := 145) (by omega)]
      rw [uI_ne (m := m) (a := 0) (b := 145) (by omega)]
      rw [show mI m 145 0 = mI m 20 1 from hX.2.1.1]
      refine And.intro ⟨by omega, Nat.le_of_ble_eq_true rfl, Nat.le_refl _, Nat.le_refl _⟩ ?_
      refine C205 (m := (uI (uI m 0 0 (nI 5)) 142 0 (nI 0))) ?_
      refine And.intro (fun cr18 => False.elim (absurd (cz13) cr18)) (fun cr18 => ?_)
      refine And.intro ⟨by omega, Nat.le_of_ble_eq_true rfl, Nat.le_refl _, Nat.le_refl _⟩ (And.intro (Wdo_142 hW) ?_)
      refine C201 (m := (uI (uI m 0 0 (nI 5)) 142 0 (nI 0))) (by omega) hW ?_
      refine And.intro ⟨rfl, Or.inl rfl, Nat.le_refl _, Nat.le_refl _⟩ ?_
      exact h2 _ (Rel_ans hR (by decide))
  · -- 3 not: bi (iR x n4r) = 0
    refine And.intro ⟨by omega, Nat.le_of_ble_eq_true rfl, Nat.le_refl _, Nat.le_refl _⟩ (And.intro (Wdo_0 hW) ?_)
    refine C178 hW ?_
    refine And.intro ⟨rfl, Or.inl rfl, Nat.le_refl _, Nat.le_refl _⟩ ?_
    refine h _ _ hW (fun Q2 h2 => ?_)
    refine ent (n := 96) z323 (by decide) rfl (by decide) (Nat.le_of_ble_eq_true rfl) (fun sc2 => ?_)
    refine And.intro (Wdo_142 hW) ?_
    refine And.intro ⟨by omega, Nat.le_of_ble_eq_true rfl, Nat.le_refl _, Nat.le_refl _⟩ (And.intro (Wdo_142 hW) ?_)
    refine C247 (m := (uI (uI m 0 0 (nI 1)) 142 0 (nI 0))) (by omega) hW (LN_u (LN_u ln4 (by decide)) (by decide)) (by omega) ?_
    refine And.intro (fun cr6 => False.elim (absurd (bi_ne0.mp cr6) (bi_eq0.mp cz3))) (fun cr6 => ?_)
    refine And.intro ⟨by omega, Nat.le_of_ble_eq_true rfl, Nat.le_refl _, Nat.le_refl _⟩ (And.intro (Wdo_142 hW) ?_)
    refine C201 (m := (uI (uI m 0 0 (nI 1)) 142 0 (nI 0))) (by omega) hW ?_
    refine And.intro ⟨rfl, Or.inl rfl, Nat.le_refl _, Nat.le_refl _⟩ ?_
    exact h2 _ (Rel_ans hR (by decide))
