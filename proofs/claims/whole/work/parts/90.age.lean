theorem lN_ii {s : Nat} (h : s < 2 ^ 31) : (nI s).toInt64 = lN s := by
  apply Int64.toInt_inj.mp
  rw [Int32.toInt_toInt64, nI_toInt h, pk_lT (by omega)]
theorem lN_t {s : Nat} (h : s < 2 ^ 31) : (lN s).toInt32 = nI s := by
  apply Int32.toInt_inj.mp
  rw [Int64.toInt_toInt32, pk_lT (by omega), nI_toInt h, Int.bmod_def]
  split <;> omega
theorem lN_m {a b : Nat} : lN a * lN b = lN (a * b) := (Int64.ofNat_mul a b).symm
theorem lN_p {a b : Nat} : lN a + lN b = lN (a + b) := (Int64.ofNat_add a b).symm
theorem ag_l {s : Nat} (h : s < 65537) : ((lN 75 * (nI s).toInt64 + lN 74) - (lN 75 * (nI s).toInt64 + lN 74) / lN 65537 * lN 65537).toInt32 = nI ((75 * s + 74) % 65537) := by
  rw [lN_ii (by omega), lN_m, lN_p, pk_lRem (by omega) (by decide) (by decide), lN_t (by omega)]
theorem C102 {d : Nat} {m : Mm} {Q : Option Value → Mm → Prop} {b s : Nat} (hB : SW m.2.2 b) (hs : mI m b 0 = nI s) (hs6 : s < 65537) (hQ : Q (some (.int (nI ((75 * s + 74) % 65537)))) (uI m b 0 (nI ((75 * s + 74) % 65537)))) : Cc d 0 0 102 [.ref b] m Q := by
  refine ent (n := 46) z102 (by decide) rfl (by decide) (Nat.le_of_ble_eq_true rfl) (fun sc => ?_)
  refine And.intro (SWo_0 hB) ?_
  rw [hs]
  refine And.intro (by decide) ?_
  rw [pk_mul, nI_add, pk_rem (by omega) (by decide) (by decide)]
  refine And.intro (SWo_0 hB) ?_
  refine And.intro (SWo_0 hB) ?_
  refine And.intro ⟨rfl, trivial, Nat.le_refl _, Nat.le_refl _⟩ ?_
  rw [show mI (uI m b 0 (nI ((75 * s + 74) % 65537))) b 0 = nI ((75 * s + 74) % 65537) from by rw [uI_eq, upd_e]]
  exact hQ
theorem P_age {d : Nat} {m : Mm} {Q : Option Value → Mm → Prop} {z : Nat} (hd : 16 ≤ d) (hR : Rel z m) (h : ∀ (r : Int32) m1, Wd m1.2.2 → (∀ Q2 : Option Value → Mm → Prop, (∀ m2, Rel z m2 → Q2 (some (.int r)) m2) → Cc d 0 0 324 [.ref 142] m1 Q2) → Q (some (.int r)) m1) : Cc d 0 0 160 [.ref 0] m Q := by
  obtain ⟨hW, hz, hS, a, b, hA, hX⟩ := id hR
  obtain ⟨hL, hLb, hab, ha, hb⟩ := RelA_L hW hA
  obtain ⟨n2r, hn2, bn2, ln2⟩ := RL_n (s := 2) (f := 5) hX.2.2.1 (by decide) (fun _ _ h => h.2.2.2.2.2.1)
  change n2r ≤ 6 at bn2
  obtain ⟨n4r, hn4, bn4, ln4⟩ := RL_n (s := 4) (f := 6) hX.2.2.1 (by decide) (fun _ _ h => h.2.2.2.2.2.2.1)
  change n4r ≤ 6 at bn4
  obtain ⟨n8r, hn8, bn8, ln8⟩ := RL_n (s := 8) (f := 10) hX.2.2.1 (by decide) (fun _ _ h => h.2.2.2.2.2.2.2.2.2.2.1)
  change n8r ≤ 8 at bn8
  obtain ⟨n10r, hn10, bn10, ln10⟩ := RL_n (s := 10) (f := 12) hX.2.2.1 (by decide) (fun _ _ h => h.2.2.2.2.2.2.2.2.2.2.2.2.1)
  change n10r ≤ 4 at bn10
  obtain ⟨fk, wk, yk, hf, hw, hy, hp2, hp3, hp4, hp21, hp22, hc9, hc10⟩ := id hX.2.2.2.1
  rcases RL_st hX.2.2.1 with ⟨hL0, hst0⟩ | ⟨q, hq1, hst0⟩
  · have hn00 : n4r = 0 := (nI_eq (by omega) (by decide)).mp (hn4.symm.trans (hL0.2.2.2.1 4 (by decide)))
    refine ent (n := 74) z160 (by decide) rfl (by decide) (Nat.le_of_ble_eq_true rfl) (fun sc => ?_)
    refine And.intro (Wdo_0 hW) (Exists.intro _ (And.intro ha ?_))
    refine And.intro ⟨by omega, Nat.le_of_ble_eq_true rfl, Nat.le_refl _, Nat.le_refl _⟩ (And.intro (LWo_0 hL) ?_)
    refine C23 hL ?_
    rw [hn4]
    refine And.intro (fun cz6 => ?_) (fun cz6 => ?_)
    · -- 6 taken: nI 1 ≤ nI n4r
      have kz6 : 1 ≤ n4r := kle (a := 1) (b := n4r) rfl rfl (by omega) (by omega) cz6
      omega
    · -- 6 not: ¬ nI 1 ≤ nI n4r
      have kz6 : n4r < 1 := knle (a := 1) (b := n4r) rfl rfl (by omega) (by omega) cz6
      refine And.intro ⟨by omega, Nat.le_of_ble_eq_true rfl, Nat.le_refl _, Nat.le_refl _⟩ (And.intro (Wdo_0 hW) ?_)
      refine C176 hW ?_
      refine And.intro ⟨rfl, trivial, Nat.le_refl _, Nat.le_refl _⟩ ?_
      refine h _ _ hW (fun Q2 h2 => ?_)
      refine ent (n := 122) z324 (by decide) rfl (by decide) (Nat.le_of_ble_eq_true rfl) (fun sc2 => ?_)
      refine And.intro (Wdo_142 hW) ?_
      refine And.intro (Wdo_142 hW) (Exists.intro _ (And.intro (show va_rf (mR m 142 3) = .null by rw [hL0.1]; rfl) ?_))
      refine And.intro ⟨by omega, Nat.le_of_ble_eq_true rfl, Nat.le_refl _, Nat.le_refl _⟩ (And.intro (Wdo_142 hW) ?_)
      refine C200 (m := (uI (uI m 0 0 (nI 1)) 142 0 (nI 0))) hW ?_
      refine And.intro ⟨rfl, trivial, Nat.le_refl _, Nat.le_refl _⟩ ?_
      exact h2 _ (Rel_ans hR (by decide))
  · skip
    have hqq := hq1
    obtain ⟨hq, w, u, ha0, ha1, hq0, hq1w, hw6, hu4, hwu, hgr⟩ := RL_q hq1
    obtain ⟨h158, hqz, hN, h3, ⟨T, hI⟩, hst, hla, hLQ, hSR⟩ := hq1
    have hq6 : mI m q 6 = nI n4r := hLQ.1.2.2.2.2.2.2.1.trans hn4
    have hq5 : mI m q 5 = nI n2r := hLQ.1.2.2.2.2.2.1.trans hn2
    obtain ⟨sk, hs6, hsk⟩ := hSR.1
    have hn4p : 0 < n4r := by
      rcases Nat.eq_zero_or_pos n4r with z9 | z9
      · refine absurd (Or.inr (Or.inr ?_)) hla
        show mI m (a + 1) 4 = 0
        rw [hn4, z9]; rfl
      · exact z9
    refine ent (n := 74) z160 (by decide) rfl (by decide) (Nat.le_of_ble_eq_true rfl) (fun sc => ?_)
    refine And.intro (Wdo_0 hW) (Exists.intro _ (And.intro ha ?_))
    refine And.intro ⟨by omega, Nat.le_of_ble_eq_true rfl, Nat.le_refl _, Nat.le_refl _⟩ (And.intro (LWo_0 hL) ?_)
    refine C23 hL ?_
    rw [hn4]
    refine And.intro (fun cz6 => ?_) (fun cz6 => ?_)
    · -- 6 taken: nI 1 ≤ nI n4r
      have kz6 : 1 ≤ n4r := kle (a := 1) (b := n4r) rfl rfl (by omega) (by omega) cz6
      refine And.intro ⟨by omega, Nat.le_of_ble_eq_true rfl, Nat.le_refl _, Nat.le_refl _⟩ (And.intro (Wdo_0 hW) ?_)
      refine C187 (f := fk) (w := wk) (by omega) hW hf hw hp2 hp3 (fun m9 hak a22 => ?_)
      have hmod : (fk + wk) % 12 < 12 := Nat.mod_lt _ (by decide)
      have hW0 := hW
      have hW : Wd m9.2.2 := by rw [a22]; exact hW0
      have hak8 : ∀ r, 158 ≤ r → mI m9 r = mI m r := fun r hr => hak.1 r (by omega) (by omega)
      have ln2 := LN_m ln2 a22 hak8
      have ln4 := LN_m ln4 a22 hak8
      have ln8 := LN_m ln8 a22 hak8
      have ln10 := LN_m ln10 a22 hak8
      have hq : va_rf (mR m9 142 3) = .ref q := by rw [show mR m9 = mR m from congrArg (fun w : WR => w.1) a22]; exact hq
      have hN : NW m9.2.2 q := by rw [a22]; exact hN
      have ha : va_rf (mR m9 0 3) = .ref a := by rw [show mR m9 = mR m from congrArg (fun w : WR => w.1) a22]; exact ha
      refine And.intro (Wdo_0 hW) (Exists.intro _ (And.intro (Wdr_0_4 hW) ?_))
      refine And.intro ⟨by omega, Nat.le_of_ble_eq_true rfl, Nat.le_refl _, Nat.le_refl _⟩ (And.intro (SWo_0 (Wd_S hW)) ?_)
      refine C102 (m := (uI m9 0 12 (nI 1))) (b := 20) (s := sk) (Wd_S hW) (by rw [uI_ne (by decide), hak.1 20 (by decide) (by omega)]; exact hsk) hs6 ?_
      refine And.intro (fun z => absurd ((nI_eq (by omega) (by decide)).mp (show nI n4r = nI 0 from z)) (by omega)) ?_
      rw [pk_rem (by omega) (by omega) (by omega)]
      refine And.intro (Wdo_0 hW) (Exists.intro _ (And.intro (Wdr_0_4 hW) ?_))
      refine And.intro ⟨by omega, Nat.le_of_ble_eq_true rfl, Nat.le_refl _, Nat.le_refl _⟩ (And.intro (SWo_0 (Wd_S hW)) ?_)
      refine C101 (m := (uI (uI m9 0 12 (nI 1)) 20 0 (nI ((75 * sk + 74) % 65537)))) (b := 20) (Wd_S hW) ?_
      refine And.intro ⟨by omega, Nat.le_of_ble_eq_true rfl, Nat.le_refl _, Nat.le_refl _⟩ (And.intro (Wdo_0 hW) ?_)
      refine C177 (m := (uI (uI (uI m9 0 12 (nI 1)) 20 0 (nI ((75 * sk + 74) % 65537))) 20 1 (mI (uI (uI m9 0 12 (nI 1)) 20 0 (nI ((75 * sk + 74) % 65537))) 20 1 ^^^ nI 1 <<< (nI ((((75 * sk + 74) % 65537) % n4r)) &&& 31)))) hW ?_
      refine And.intro ⟨rfl, trivial, Nat.le_refl _, Nat.le_refl _⟩ ?_
      refine h _ _ hW (fun Q2 h2 => ?_)
      refine ent (n := 122) z324 (by decide) rfl (by decide) (Nat.le_of_ble_eq_true rfl) (fun sc2 => ?_)
      refine And.intro (Wdo_142 hW) ?_
      refine And.intro (Wdo_142 hW) (Exists.intro _ (And.intro hq ?_))
      refine And.intro ⟨by omega, Nat.le_of_ble_eq_true rfl, Nat.le_refl _, Nat.le_refl _⟩ (And.intro (Wdo_142 hW) ?_)
      refine C322 (m := (uI (uI (uI (uI (uI m9 0 12 (nI 1)) 20 0 (nI ((75 * sk + 74) % 65537))) 20 1 (mI (uI (uI m9 0 12 (nI 1)) 20 0 (nI ((75 * sk + 74) % 65537))) 20 1 ^^^ nI 1 <<< (nI ((((75 * sk + 74) % 65537) % n4r)) &&& 31))) 0 0 (nI 0)) 142 0 (nI 0))) (w := wk) hW hw (by rw [uI_eq, upd_o (by decide), uI_ne (by decide), uI_ne (by decide), uI_ne (by decide), uI_ne (by decide), hak.1 142 (by decide) (by omega)]; exact hp21) (fun m8 hke hkk => ?_)
      have hW8 : Wd m8.2.2 := by rw [hkk]; exact hW
      have hW := hW8
      have hq : va_rf (mR m8 142 3) = .ref q := by rw [show mR m8 = mR m9 from congrArg (fun w : WR => w.1) (hkk.trans (by rw [uI_22, uI_22, uI_22, uI_22, uI_22]))]; exact hq
      have hN : NW m8.2.2 q := by rw [hkk]; exact hN
      refine And.intro (Wdo_142 hW) (Exists.intro _ (And.intro (Wdr_142_18 hW) ?_))
      refine And.intro (Wdo_142 hW) (Exists.intro _ (And.intro (Wdr_142_18 hW) ?_))
      refine And.intro (Wdi_145 hW (vi rfl (by omega))) ?_
      rw [nI_clamp (show 47 < 2 ^ 31 by omega)]
      refine And.intro (by decide) ?_
      refine And.intro (Wdi_145 hW (vi rfl (by omega))) ?_
      rw [nI_clamp (show 47 < 2 ^ 31 by omega)]
      rw [show ((((lN 75) * ((mI m8 145 47).toInt64)) + (lN 74)) - (((lN 75) * ((mI m8 145 47).toInt64)) + (lN 74)) / (lN 65537) * (lN 65537)).toInt32 = nI ((75 * sk + 74) % 65537) from by rw [show mI m8 145 47 = nI sk from by rw [hke.1 145 (by decide) (by decide), uI_ne (by decide), uI_ne (by decide), uI_ne (by decide), uI_ne (by decide), uI_ne (by decide), hak.1 145 (by decide) (by omega)]; exact (hX.2.1.2.2.2.2).trans hsk]; exact ag_l hs6]
      refine And.intro (Wdo_142 hW) (Exists.intro _ (And.intro (Wdr_142_18 hW) ?_))
      refine And.intro (Wdi_145 hW (vi rfl (by omega))) ?_
      rw [nI_clamp (show 47 < 2 ^ 31 by omega)]
      rw [show mI (uI m8 145 47 (nI ((75 * sk + 74) % 65537))) 145 47 = nI ((75 * sk + 74) % 65537) from by rw [uI_eq, upd_e]]
      refine And.intro (Wdo_142 hW) (Exists.intro _ (And.intro hq ?_))
      refine And.intro (NWo_0 hN) ?_
      rw [uI_ne (m := m8) (a := 145) (b := q) (by omega)]
      rw [show mI m8 q 6 = nI n4r from by rw [hke.1 q (by omega) (by omega), uI_ne (by omega), uI_ne (by omega), uI_ne (by omega), uI_ne (by omega), uI_ne (by omega), hak.1 q (by omega) (by omega)]; exact hq6]
      refine And.intro (fun z => absurd ((nI_eq (by omega) (by decide)).mp (show nI n4r = nI 0 from z)) (by omega)) ?_
      rw [pk_rem (by omega) (by omega) (by omega)]
      refine And.intro (Wdo_142 hW) (Exists.intro _ (And.intro (Wdr_142_18 hW) ?_))
      refine And.intro ⟨rfl, rfl⟩ ?_
      refine And.intro (Wdi_145 hW (vi rfl (by omega))) ?_
      rw [nI_clamp (show 0 < 2 ^ 31 by omega)]
      rw [show mI (uI m8 145 47 (nI ((75 * sk + 74) % 65537))) 145 0 = mI m8 145 0 from by rw [uI_eq, upd_o (by decide)]]
      refine And.intro (Wdi_145 hW (vi rfl (by omega))) ?_
      rw [nI_clamp (show 0 < 2 ^ 31 by omega)]
      refine And.intro ⟨by omega, Nat.le_of_ble_eq_true rfl, Nat.le_refl _, Nat.le_refl _⟩ (And.intro (Wdo_142 hW) ?_)
      refine C202 (m := (uI (uI m8 145 47 (nI ((75 * sk + 74) % 65537))) 145 0 ((mI m8 145 0) ^^^ (nI 1 <<< ((nI ((((75 * sk + 74) % 65537) % n4r))) &&& 31))))) hW ?_
      refine And.intro ⟨rfl, trivial, Nat.le_refl _, Nat.le_refl _⟩ ?_
      have er145 : mI m8 145 = mI m 145 := by rw [hke.1 145 (by decide) (by decide), uI_ne (by decide), uI_ne (by decide), uI_ne (by decide), uI_ne (by decide), uI_ne (by decide), hak.1 145 (by decide) (by omega)]
      have hb4 : nv (lam m a 1 4) ≤ 6 := (hI.1 4 (by decide)).2
      have hb10 : nv (lam m a 1 10) ≤ 4 := (hI.1 10 (by decide)).2
      have hn20 : ∀ r, r < 30 → mI (uI (uI (uI (uI m8 145 47 (nI ((75 * sk + 74) % 65537))) 145 0 ((mI m8 145 0) ^^^ (nI 1 <<< ((nI ((((75 * sk + 74) % 65537) % n4r))) &&& 31)))) 142 1 (nI 0)) 142 2 (-nI 1)) r = mI (uI (uI (uI (uI m9 0 12 (nI 1)) 20 0 (nI ((75 * sk + 74) % 65537))) 20 1 (mI (uI (uI m9 0 12 (nI 1)) 20 0 (nI ((75 * sk + 74) % 65537))) 20 1 ^^^ nI 1 <<< (nI ((((75 * sk + 74) % 65537) % n4r)) &&& 31))) 0 0 (nI 0)) r := fun r hr => by rw [uI_ne (by omega), uI_ne (by omega), uI_ne (by omega), uI_ne (by omega), hke.1 r (by omega) (by omega), uI_ne (by omega)]
      have hn145 : mI (uI (uI (uI (uI m8 145 47 (nI ((75 * sk + 74) % 65537))) 145 0 ((mI m8 145 0) ^^^ (nI 1 <<< ((nI ((((75 * sk + 74) % 65537) % n4r))) &&& 31)))) 142 1 (nI 0)) 142 2 (-nI 1)) 145 = upd (upd (mI m 145) 47 (nI ((75 * sk + 74) % 65537))) 0 (upd (mI m 145) 47 (nI ((75 * sk + 74) % 65537)) 0 ^^^ (nI 1 <<< (nI (((75 * sk + 74) % 65537) % n4r) &&& 31))) := by rw [uI_ne (by decide), uI_ne (by decide), uI_eq, uI_eq, er145]; rfl
      have er20 : mI (uI (uI m9 0 12 (nI 1)) 20 0 (nI ((75 * sk + 74) % 65537))) 20 = upd (mI m 20) 0 (nI ((75 * sk + 74) % 65537)) := by rw [uI_eq, uI_ne (by decide), hak.1 20 (by decide) (by omega)]
      have es0 : mI (uI (uI (uI (uI m9 0 12 (nI 1)) 20 0 (nI ((75 * sk + 74) % 65537))) 20 1 (mI (uI (uI m9 0 12 (nI 1)) 20 0 (nI ((75 * sk + 74) % 65537))) 20 1 ^^^ nI 1 <<< (nI ((((75 * sk + 74) % 65537) % n4r)) &&& 31))) 0 0 (nI 0)) 20 = upd (upd (mI m 20) 0 (nI ((75 * sk + 74) % 65537))) 1 (upd (mI m 20) 0 (nI ((75 * sk + 74) % 65537)) 1 ^^^ (nI 1 <<< (nI (((75 * sk + 74) % 65537) % n4r) &&& 31))) := by rw [uI_ne (by decide), uI_eq, er20]
      have es1 : mI (uI (uI (uI (uI m9 0 12 (nI 1)) 20 0 (nI ((75 * sk + 74) % 65537))) 20 1 (mI (uI (uI m9 0 12 (nI 1)) 20 0 (nI ((75 * sk + 74) % 65537))) 20 1 ^^^ nI 1 <<< (nI ((((75 * sk + 74) % 65537) % n4r)) &&& 31))) 0 0 (nI 0)) (20 + 1) = mI m (20 + 1) := by rw [uI_ne (by decide), uI_ne (by decide), uI_ne (by decide), uI_ne (by decide), hak.1 (20 + 1) (by decide) (by omega)]
      have es2 : mI (uI (uI (uI (uI m9 0 12 (nI 1)) 20 0 (nI ((75 * sk + 74) % 65537))) 20 1 (mI (uI (uI m9 0 12 (nI 1)) 20 0 (nI ((75 * sk + 74) % 65537))) 20 1 ^^^ nI 1 <<< (nI ((((75 * sk + 74) % 65537) % n4r)) &&& 31))) 0 0 (nI 0)) (20 + 2) = mI m (20 + 2) := by rw [uI_ne (by decide), uI_ne (by decide), uI_ne (by decide), uI_ne (by decide), hak.1 (20 + 2) (by decide) (by omega)]
      have es3 : mI (uI (uI (uI (uI m9 0 12 (nI 1)) 20 0 (nI ((75 * sk + 74) % 65537))) 20 1 (mI (uI (uI m9 0 12 (nI 1)) 20 0 (nI ((75 * sk + 74) % 65537))) 20 1 ^^^ nI 1 <<< (nI ((((75 * sk + 74) % 65537) % n4r)) &&& 31))) 0 0 (nI 0)) (20 + 3) = mI m (20 + 3) := by rw [uI_ne (by decide), uI_ne (by decide), uI_ne (by decide), uI_ne (by decide), hak.1 (20 + 3) (by decide) (by omega)]
      have hI1 : ∀ r, r ≠ 20 → ud (mI m) 20 0 (nI ((75 * sk + 74) % 65537)) r = mI m r := fun r h => ud_ne h
      have hI2 : ud (mI m) 20 0 (nI ((75 * sk + 74) % 65537)) 20 = upd (mI m 20) 0 (nI ((75 * sk + 74) % 65537)) := ud_eq
      have sv1 := SV_d (J := ud (mI m) 20 0 (nI ((75 * sk + 74) % 65537))) (s := nI ((75 * sk + 74) % 65537)) hX.2.1 hI2 (hI1 _ (by decide)) (hI1 _ (by decide)) (hI1 _ (by decide))
      have hsv := SV_l (J := mI (uI (uI (uI (uI m9 0 12 (nI 1)) 20 0 (nI ((75 * sk + 74) % 65537))) 20 1 (mI (uI (uI m9 0 12 (nI 1)) 20 0 (nI ((75 * sk + 74) % 65537))) 20 1 ^^^ nI 1 <<< (nI ((((75 * sk + 74) % 65537) % n4r)) &&& 31))) 0 0 (nI 0))) (s := (nI 1 <<< (nI (((75 * sk + 74) % 65537) % n4r) &&& 31))) sv1 (es0.trans (by rw [hI2])) (es1.trans (hI1 _ (by decide)).symm) (es2.trans (hI1 _ (by decide)).symm) (es3.trans (hI1 _ (by decide)).symm)
      refine h2 _ (Rel_act (m9 := m9) (g := (uI (uI (uI (uI m9 0 12 (nI 1)) 20 0 (nI ((75 * sk + 74) % 65537))) 20 1 (mI (uI (uI m9 0 12 (nI 1)) 20 0 (nI ((75 * sk + 74) % 65537))) 20 1 ^^^ nI 1 <<< (nI ((((75 * sk + 74) % 65537) % n4r)) &&& 31))) 0 0 (nI 0))) (m8 := m8) hW0 hz hS hA hX hqq hf hw hy hp4 hp22 hc9 hc10 hak a22 (by rw [uI_22, uI_22, uI_22, uI_22]) (fun r h0 h1 => by rw [uI_ne h0, uI_ne (by omega), uI_ne (by omega), uI_ne h0]) (by rw [uI_eq, upd_e]) (by rw [uI_eq, upd_o (by decide), uI_ne (by decide), uI_ne (by decide), uI_eq, upd_o (by decide)]) (by rw [uI_eq, upd_o (by decide), uI_ne (by decide), uI_ne (by decide), uI_eq, upd_e]) hke hkk (by rw [uI_22, uI_22, uI_22, uI_22]) (fun r h1 h2 => by rw [uI_ne h1, uI_ne h1, uI_ne h2, uI_ne h2]) (by rw [uI_eq, upd_o (by decide), uI_eq, upd_e]) (by rw [uI_eq, upd_e]) (fun x h1 h2 => by rw [uI_eq, upd_o h2, uI_eq, upd_o h1, uI_ne (by decide), uI_ne (by decide)]) ?_ ?_)
      · rw [hn145]
        exact SV_m hsv (fun _ _ => rfl) (by rw [hn20 20 (by decide)]) (by rw [hn20 20 (by decide)]) (fun x _ => by rw [hn20 (20 + 1) (by decide)]) (fun x _ => by rw [hn20 (20 + 2) (by decide)]) (fun x _ => by rw [hn20 (20 + 3) (by decide)])
      · have hsr := (⟨by rw [es0, upd_o (by decide), upd_e]; exact ⟨_, Nat.mod_lt _ (by decide), rfl⟩, fun x hx => by rw [es1]; exact hSR.2.1 x hx, fun x hx => by rw [es2]; exact hSR.2.2.1 x hx, fun x hx => by rw [es3]; exact hSR.2.2.2 x hx⟩ : SR (lam m a) (mI (uI (uI (uI (uI m9 0 12 (nI 1)) 20 0 (nI ((75 * sk + 74) % 65537))) 20 1 (mI (uI (uI m9 0 12 (nI 1)) 20 0 (nI ((75 * sk + 74) % 65537))) 20 1 ^^^ nI 1 <<< (nI ((((75 * sk + 74) % 65537) % n4r)) &&& 31))) 0 0 (nI 0))) 20)
        exact SR_m hsr hb4 hb10 (by rw [hn20 20 (by decide)]) (fun x _ => by rw [hn20 (20 + 1) (by decide)]) (fun x _ => by rw [hn20 (20 + 2) (by decide)]) (fun x _ => by rw [hn20 (20 + 3) (by decide)])
    · -- 6 not: ¬ nI 1 ≤ nI n4r
      have kz6 : n4r < 1 := knle (a := 1) (b := n4r) rfl rfl (by omega) (by omega) cz6
      omega
