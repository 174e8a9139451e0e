theorem upd9 {f : Nat → Int32} {p x : Nat} {v : Int32} (h : x ≠ p) : upd f p v x = f x := upd_o h
theorem cz9 {f : Nat} (h1 : 0 < f) (h2 : f < 10) : f = 1 ∨ f = 2 ∨ f = 3 ∨ f = 4 ∨ f = 5 ∨ f = 6 ∨ f = 7 ∨ f = 8 ∨ f = 9 := by omega
theorem cz6 {f : Nat} (h2 : f < 6) : f = 0 ∨ f = 1 ∨ f = 2 ∨ f = 3 ∨ f = 4 ∨ f = 5 := by omega
theorem set_o {D : Nat → Nat → Int32} {p x h f : Nat} {a : Int32} (hx : x ≠ p) (h1 : 0 < f) (h2 : f < 10) : setF (waF D p h) p a (nI h) f x = D f x := by
  rcases cz9 h1 h2 with rfl | rfl | rfl | rfl | rfl | rfl | rfl | rfl | rfl
  · exact upd_o hx
  · exact upd_o hx
  · rfl
  · rfl
  · rfl
  · rfl
  · exact upd_o hx
  · rfl
  · rfl
theorem com_o {D : Nat → Nat → Int32} {p x h f g k : Nat} (hx : x ≠ p) (h1 : 0 < f) (h2 : f < 10) : comF (waF D p h) p g (nI h + nI 1) k f x = D f x := by
  rcases cz9 h1 h2 with rfl | rfl | rfl | rfl | rfl | rfl | rfl | rfl | rfl
  · rfl
  · rfl
  · rfl
  · rfl
  · exact upd_o hx
  · exact upd_o hx
  · exact upd_o hx
  · exact upd_o hx
  · exact upd_o hx
theorem seE_o {E : Nat → Nat → Int32} {p x f : Nat} {a b : Int32} (hx : x ≠ p) (h2 : f < 6) : seE (waE E p b) p a b f x = E f x := by
  rcases cz6 h2 with rfl | rfl | rfl | rfl | rfl | rfl
  · rfl
  · rfl
  · exact upd_o hx
  · exact upd_o hx
  · exact upd_o hx
  · rfl
theorem coE_o {E : Nat → Nat → Int32} {p x f k : Nat} {a b : Int32} (hx : x ≠ p) (h2 : f < 6) : coE E p a b k f x = E f x := by
  rcases cz6 h2 with rfl | rfl | rfl | rfl | rfl | rfl
  · exact upd_o hx
  · exact upd_o hx
  · rfl
  · rfl
  · rfl
  · exact upd_o hx
theorem waE_o {E : Nat → Nat → Int32} {p x f : Nat} {b : Int32} (hx : x ≠ p) (h2 : f < 6) : waE E p b f x = E f x := by
  rcases cz6 h2 with rfl | rfl | rfl | rfl | rfl | rfl
  · rfl
  · rfl
  · rfl
  · rfl
  · exact upd_o hx
  · rfl
theorem DE_set {Λ : Nat → Nat → Int32} {np : Nat} {l w : Int32} {g0 h : Nat} {D E : Nat → Nat → Int32} {p : Nat} {f : Int32} (hf : f ≠ nI 2) (hD : DE Λ np l w g0 (h + 1) D E) (hp : p < 8) (h1 : D 1 p = nI 2) (hpr : prP np w p) (h3 : D 3 p = Λ 9 (p * 7 + 2)) (h4 : D 4 p = weF (Λ 9) l p) (hw : nv (Λ 9 (p * 7 + 4)) < h + 1) (hA : AR D E p) : DE Λ np l w g0 (h + 1) (setF (waF D p h) p f (nI h)) (seE (waE E p (nI h)) p f (nI h)) := by
  refine ⟨fun x hx => ?_, ?_, set_DI hD.2.2 hf⟩
  · by_cases e : x = p
    · rw [e]
      exact Or.inl ⟨hpr, h3, h4, Or.inl ⟨hw, AR_set hA⟩⟩
    · exact DP_fr (fun f a b => set_o e a b) (fun i _ => rfl) (fun f a => seE_o e a) (fun i _ => rfl) (hD.1 x hx)
  · show upd (D 0) 11 (D 0 11 - nI 1) 11 = _
    have ho := opn_1 (D := D) (D2 := setF (waF D p h) p f (nI h)) h1 (fun z => hf ((show upd (D 1) p f p = f from upd_e) ▸ z)) (fun x hx => upd_o hx) 8 hp
    rw [upd_e, hD.2.1, pk_sub (by omega), ← ho, Nat.add_sub_cancel]
theorem DE_ju {Λ Ψ : Nat → Nat → Int32} {n np : Nat} {l w : Int32} {g0 h g : Nat} {D E : Nat → Nat → Int32} (hJ : JE Λ Ψ n np) (hh : h ≤ 95) (hg : g < 6) (hD : DE Λ np l w g0 (h + 1) D E) (hf : foF D g h < 8) : ∃ k, D 8 (foF D g h) = nI k ∧ k < 97 ∧ D 1 (foF D g h) = nI 2 ∧ D 5 (foF D g h) = nI g ∧ prP np w (foF D g h) ∧ D 3 (foF D g h) = Λ 9 (foF D g h * 7 + 2) ∧ AR D E (foF D g h) ∧ DE Λ np l w g0 (h + 1) (juF Λ Ψ D (foF D g h) g h) (sdF Λ Ψ D E (foF D g h) g h k) := by
  have hst : ¬ stF (D 1) (D 5) (D 6) (foF D g h) (nI g) (nI h) = 0 := foQ_st (Nat.le_refl 8) hf
  obtain ⟨hpr, h3, h4, hw, hA⟩ := (DP_st hJ hh hg (hD.1 _ hf)).2 hst
  obtain ⟨h1, h5, h6⟩ := stF_e hst
  obtain ⟨hnp, -, c, k, hc, hk, hkc, hc96⟩ := hD.2.2 _ hf h1
  have hDI := ju_DI hJ hD.2.2 hg hh hf
  generalize foF D g h = p at *
  have hch : c ≤ h := le_nI (by omega) (by omega) (by rw [← hc]; exact h6)
  refine ⟨k, hk, by omega, h1, h5, hpr, h3, hA, ?_⟩
  unfold juF sdF
  by_cases ez1 : graF Λ Ψ D p g = 0
  · rw [if_pos ez1, if_pos ez1]
    by_cases ez2 : goF Λ Ψ p g = -nI 2
    · rw [if_pos ez2, if_pos ez2]
      exact DE_set (by decide) hD hf h1 hpr h3 h4 hw hA
    · rw [if_neg ez2, if_neg ez2]
      have ht : tOf Λ p < 6 := by
        obtain ⟨t, ht, et⟩ := (hJ.1 p hnp).1
        unfold tOf
        rw [et, nv_nI (by omega)]
        exact ht
      obtain ⟨eg, hg6⟩ := goF_o hJ (by omega) hg ht ez2
      have hnk : nv (D 8 p) = k := by rw [hk, nv_nI (by omega)]
      rw [hnk]
      unfold juF at hDI
      rw [if_pos ez1, if_neg ez2, hnk] at hDI
      generalize nv (goF Λ Ψ p g) = gg at *
      rw [eg]
      refine ⟨fun x hx => ?_, ?_, hDI⟩
      · by_cases e : x = p
        · rw [e]
          exact Or.inl ⟨hpr, h3, h4, Or.inl ⟨hw, AR_com hA hg6 hk (by omega)⟩⟩
        · refine DP_fr (fun f a b => com_o e a b) (fun i hi => ?_) (fun f a => (coE_o e a).trans (waE_o e a)) (fun i hi => ?_) (hD.1 x hx)
          · show upd (D 10) (p * 97 + k) (nI gg) (x * 97 + i) = _
            exact upd_o (by omega)
          · show upd (E 6) (100 * p + k) (nI gg) (100 * x + i) = _
            exact upd_o (by omega)
      · show D 0 11 = _
        rw [hD.2.1, opn_c (D := D) (D2 := comF (waF D p h) p gg (nI h + nI 1) k) 8 (fun x hx => Iff.rfl)]
  · rw [if_neg ez1, if_neg ez1]
    exact DE_set (by decide) hD hf h1 hpr h3 h4 hw hA
/-- nobody stands anywhere -/
theorem DE_no {Λ Ψ : Nat → Nat → Int32} {np : Nat} {D : Nat → Nat → Int32} (hD2 : D 0 11 = nI (opn D 8)) (h0 : D 0 11 ≤ 0) : ∀ p, p < 8 → ¬ D 1 p = nI 2 := by
  refine opn_0 8 ?_
  have := opn_l (D := D) 8
  rw [hD2] at h0
  rcases Nat.eq_zero_or_pos (opn D 8) with z | z
  · exact z
  · exact absurd h0 (nI_nle z (by omega))
theorem sub_c {x y : Int32} (hx : iR x 100) (hy : iR y 100) : (0 < x - y ↔ ¬ x ≤ y) ∧ (x - y = 0 ↔ x = y) := by
  obtain ⟨a, ha, rfl⟩ := hx
  obtain ⟨b, hb, rfl⟩ := hy
  have e : (nI a - nI b).toInt = (a : Int) - b := by
    rw [Int32.toInt_sub, nI_toInt (by omega), nI_toInt (by omega), Int.bmod_def]
    split <;> omega
  have z0 : (0 : Int32).toInt = 0 := by decide
  constructor
  · rw [Int32.lt_iff_toInt_lt, e, z0, nI_leI (by omega) (by omega)]
    omega
  · constructor
    · intro h
      have h2 : (nI a - nI b).toInt = 0 := by rw [h, z0]
      rw [e] at h2
      rw [show a = b by omega]
    · intro h
      rw [h]
      exact Int32.sub_self _
theorem D271 {d : Nat} {m : Mm} {Q : Option Value → Mm → Prop} {E : Nat → Nat → Int32} {p kk : Nat} {g h : Int32} (hW : Wd m.2.2) (hp : p < 8) (hk : E 5 p = nI kk) (hk9 : kk < 100) (hQ : Q none (bput m 148 7 (coE E p g h kk))) : Cc d 0 0 271 [.ref 142, .int (nI p), .int g, .int h] (bput m 148 7 E) Q := by
  refine ent (n := 82) z271 (by decide) rfl (by decide) (Nat.le_of_ble_eq_true rfl) (fun sc => ?_)
  refine And.intro (Wdo_142 hW) (Exists.intro _ (And.intro (Wdr_142_23 hW) ?_))
  refine And.intro (Wdi_148 hW (vi rfl (by omega))) ?_
  rw [nI_clamp (show p < 2 ^ 31 by omega)]
  rw [bput_u0 (x := 148) (by decide)]
  refine And.intro (Wdo_142 hW) (Exists.intro _ (And.intro (Wdr_142_24 hW) ?_))
  refine And.intro (Wdi_149 hW (vi rfl (by omega))) ?_
  rw [nI_clamp (show p < 2 ^ 31 by omega)]
  rw [bput_u (x := 148) (f := 1) (by decide)]
  refine And.intro (Wdo_142 hW) (Exists.intro _ (And.intro (Wdr_142_29 hW) ?_))
  refine And.intro (Wdo_142 hW) (Exists.intro _ (And.intro (Wdr_142_28 hW) ?_))
  refine And.intro (Wdi_153 hW (vi rfl (by omega))) ?_
  rw [nI_clamp (show p < 2 ^ 31 by omega)]
  rw [bput_r (x := 148) (f := 5) (by decide)]
  rw [ud_ne (D := (ud E 0 p g)) (f := 1) (g := 5) (by decide)]
  rw [ud_ne (D := E) (f := 0) (g := 5) (by decide)]
  rw [hk]
  have ez21 : (nI 100 * nI p) + nI kk = nI (100 * p + kk) := by simp only [nI_add, pk_mul]
  refine And.intro (Wdi_154 hW (vi ez21 (by omega))) ?_
  rw [vc ez21 (by omega)]
  rw [bput_u (x := 148) (f := 6) (by decide)]
  refine And.intro (Wdo_142 hW) (Exists.intro _ (And.intro (Wdr_142_28 hW) ?_))
  refine And.intro ⟨rfl, rfl⟩ ?_
  refine And.intro (Wdi_153 hW (vi rfl (by omega))) ?_
  rw [nI_clamp (show p < 2 ^ 31 by omega)]
  rw [bput_r (x := 148) (f := 5) (by decide)]
  rw [ud_ne (D := (ud (ud E 0 p g) 1 p h)) (f := 6) (g := 5) (by decide)]
  rw [ud_ne (D := (ud E 0 p g)) (f := 1) (g := 5) (by decide)]
  rw [ud_ne (D := E) (f := 0) (g := 5) (by decide)]
  rw [hk]
  refine And.intro (Wdi_153 hW (vi rfl (by omega))) ?_
  rw [nI_clamp (show p < 2 ^ 31 by omega)]
  rw [bput_u (x := 148) (f := 5) (by decide)]
  refine And.intro ⟨rfl, rfl, Nat.le_refl _, Nat.le_refl _⟩ ?_
  exact hQ
theorem D274 {d : Nat} {m : Mm} {Q : Option Value → Mm → Prop} {q n np : Nat} {Λ Ψ : Nat → Nat → Int32} (hd : 1 ≤ d) (hW : Wd m.2.2) (hN : NW m.2.2 q) (hq : va_rf (mR m 142 3) = .ref q) (h158 : 158 ≤ q) (hnp8 : np ≤ 8) (hnp : mI m q 10 = nI np) (hpr : ∀ p, p < np → mI m (q + 10) p = Λ 9 (p * 7 + 0) ∧ mI m (q + 11) p = Λ 9 (p * 7 + 1) ∧ mI m (q + 12) p = Λ 9 (p * 7 + 2) ∧ mI m (q + 13) p = Λ 9 (p * 7 + 3) ∧ mI m (q + 14) p = Λ 9 (p * 7 + 4) ∧ mI m (q + 15) p = Λ 9 (p * 7 + 5) ∧ mI m (q + 16) p = Λ 9 (p * 7 + 6)) (hGN : ∀ p, p < np → iR (Λ 9 (p * 7 + 5)) 100 ∧ iR (Λ 9 (p * 7 + 6)) 100) {E : Nat → Nat → Int32} {p b : Nat} {l : Int32} (hp : p < np) (hb : b < np) (hQ : Q (some (.int (gaF (weF (Λ 9) l) (E 1) p b))) (bput m 148 7 E)) : Cc d 0 0 274 [.ref 142, .int (nI p), .int (nI b), .int l] (bput m 148 7 E) Q := by
  refine ent (n := 118) z274 (by decide) rfl (by decide) (Nat.le_of_ble_eq_true rfl) (fun sc => ?_)
  refine And.intro (fun cz2 => ?_) (fun cz2 => ?_)
  · -- 2 taken: ¬ l = nI 1
    refine And.intro (fun cz17 => ?_) (fun cz17 => ?_)
    · -- 17 taken: ¬ l = nI 2
      refine And.intro (fun cz33 => False.elim (absurd cz33 (by decide))) (fun cz33 => ?_)
      refine And.intro (fun cz35 => False.elim (absurd cz35 (by decide))) (fun cz35 => ?_)
      refine And.intro (Wdo_142 hW) (Exists.intro _ (And.intro (Wdr_142_24 hW) ?_))
      refine And.intro (Wdi_149 hW (vi rfl (by omega))) ?_
      rw [nI_clamp (show p < 2 ^ 31 by omega)]
      rw [bput_r (x := 148) (f := 1) (by decide)]
      refine And.intro (Wdo_142 hW) (Exists.intro _ (And.intro (Wdr_142_24 hW) ?_))
      refine And.intro (Wdi_149 hW (vi rfl (by omega))) ?_
      rw [nI_clamp (show b < 2 ^ 31 by omega)]
      rw [bput_r (x := 148) (f := 1) (by decide)]
      refine And.intro (fun cz44 => ?_) (fun cz44 => ?_)
      · -- 44 taken: E 1 b ≤ E 1 p
        refine And.intro ⟨rfl, Or.inl rfl, Nat.le_refl _, Nat.le_refl _⟩ ?_
        have hwp : weF (Λ 9) l p = nI 0 := by unfold weF; rw [if_neg cz2, if_neg cz17]
        have hwb : weF (Λ 9) l b = nI 0 := by unfold weF; rw [if_neg cz2, if_neg cz17]
        unfold gaF at hQ
        rw [hwp, hwb] at hQ
        rw [if_pos rfl, if_pos cz44] at hQ
        exact hQ
      · -- 44 not: ¬ E 1 b ≤ E 1 p
        refine And.intro ⟨rfl, Or.inr rfl, Nat.le_refl _, Nat.le_refl _⟩ ?_
        have hwp : weF (Λ 9) l p = nI 0 := by unfold weF; rw [if_neg cz2, if_neg cz17]
        have hwb : weF (Λ 9) l b = nI 0 := by unfold weF; rw [if_neg cz2, if_neg cz17]
        unfold gaF at hQ
        rw [hwp, hwb] at hQ
        rw [if_pos rfl, if_neg cz44] at hQ
        exact hQ
    · -- 17 not: l = nI 2
      refine And.intro (Wdo_142 hW) (Exists.intro _ (And.intro hq ?_))
      refine And.intro (NWo_0 hN) (Exists.intro _ (And.intro (NWr_0_32 hN) ?_))
      refine And.intro (NWi_16 hN (vi rfl (by omega))) ?_
      rw [nI_clamp (show p < 2 ^ 31 by omega)]
      rw [bput_hi (m := m) (x := 148) (n := 7) (D := E) (b := (q + 16)) (by omega)]
      rw [(hpr p hp).2.2.2.2.2.2]
      refine And.intro (Wdo_142 hW) (Exists.intro _ (And.intro hq ?_))
      refine And.intro (NWo_0 hN) (Exists.intro _ (And.intro (NWr_0_32 hN) ?_))
      refine And.intro (NWi_16 hN (vi rfl (by omega))) ?_
      rw [nI_clamp (show b < 2 ^ 31 by omega)]
      rw [bput_hi (m := m) (x := 148) (n := 7) (D := E) (b := (q + 16)) (by omega)]
      rw [(hpr b hb).2.2.2.2.2.2]
      refine And.intro (fun cz33 => ?_) (fun cz33 => ?_)
      · -- 33 taken: 0 < (Λ 9 (p * 7 + 6)) - (Λ 9 (b * 7 + 6))
        refine And.intro ⟨rfl, Or.inr rfl, Nat.le_refl _, Nat.le_refl _⟩ ?_
        have hwp : weF (Λ 9) l p = Λ 9 (p * 7 + 6) := by unfold weF; rw [if_neg cz2, if_pos cz17]
        have hwb : weF (Λ 9) l b = Λ 9 (b * 7 + 6) := by unfold weF; rw [if_neg cz2, if_pos cz17]
        unfold gaF at hQ
        rw [hwp, hwb] at hQ
        have hsc := sub_c (hGN p hp).2 (hGN b hb).2
        have hne : ¬ Λ 9 (p * 7 + 6) = Λ 9 (b * 7 + 6) := fun z => hsc.1.mp cz33 (by rw [z]; exact Int32.le_refl _)
        rw [if_neg hne, if_neg (hsc.1.mp cz33)] at hQ
        exact hQ
      · -- 33 not: ¬ 0 < (Λ 9 (p * 7 + 6)) - (Λ 9 (b * 7 + 6))
        refine And.intro (fun cz35 => ?_) (fun cz35 => ?_)
        · -- 35 taken: ¬ (Λ 9 (p * 7 + 6)) - (Λ 9 (b * 7 + 6)) = 0
          refine And.intro ⟨rfl, Or.inl rfl, Nat.le_refl _, Nat.le_refl _⟩ ?_
          have hwp : weF (Λ 9) l p = Λ 9 (p * 7 + 6) := by unfold weF; rw [if_neg cz2, if_pos cz17]
          have hwb : weF (Λ 9) l b = Λ 9 (b * 7 + 6) := by unfold weF; rw [if_neg cz2, if_pos cz17]
          unfold gaF at hQ
          rw [hwp, hwb] at hQ
          have hsc := sub_c (hGN p hp).2 (hGN b hb).2
          rw [if_neg (fun z => cz35 (hsc.2.mpr z)), if_pos (Classical.byContradiction fun z => cz33 (hsc.1.mpr z))] at hQ
          exact hQ
        · -- 35 not: (Λ 9 (p * 7 + 6)) - (Λ 9 (b * 7 + 6)) = 0
          refine And.intro (Wdo_142 hW) (Exists.intro _ (And.intro (Wdr_142_24 hW) ?_))
          refine And.intro (Wdi_149 hW (vi rfl (by omega))) ?_
          rw [nI_clamp (show p < 2 ^ 31 by omega)]
          rw [bput_r (x := 148) (f := 1) (by decide)]
          refine And.intro (Wdo_142 hW) (Exists.intro _ (And.intro (Wdr_142_24 hW) ?_))
          refine And.intro (Wdi_149 hW (vi rfl (by omega))) ?_
          rw [nI_clamp (show b < 2 ^ 31 by omega)]
          rw [bput_r (x := 148) (f := 1) (by decide)]
          refine And.intro (fun cz44 => ?_) (fun cz44 => ?_)
          · -- 44 taken: E 1 b ≤ E 1 p
            refine And.intro ⟨rfl, Or.inl rfl, Nat.le_refl _, Nat.le_refl _⟩ ?_
            have hwp : weF (Λ 9) l p = Λ 9 (p * 7 + 6) := by unfold weF; rw [if_neg cz2, if_pos cz17]
            have hwb : weF (Λ 9) l b = Λ 9 (b * 7 + 6) := by unfold weF; rw [if_neg cz2, if_pos cz17]
            unfold gaF at hQ
            rw [hwp, hwb] at hQ
            have hsc := sub_c (hGN p hp).2 (hGN b hb).2
            rw [if_pos (hsc.2.mp cz35), if_pos cz44] at hQ
            exact hQ
          · -- 44 not: ¬ E 1 b ≤ E 1 p
            refine And.intro ⟨rfl, Or.inr rfl, Nat.le_refl _, Nat.le_refl _⟩ ?_
            have hwp : weF (Λ 9) l p = Λ 9 (p * 7 + 6) := by unfold weF; rw [if_neg cz2, if_pos cz17]
            have hwb : weF (Λ 9) l b = Λ 9 (b * 7 + 6) := by unfold weF; rw [if_neg cz2, if_pos cz17]
            unfold gaF at hQ
            rw [hwp, hwb] at hQ
            have hsc := sub_c (hGN p hp).2 (hGN b hb).2
            rw [if_pos (hsc.2.mp cz35), if_neg cz44] at hQ
            exact hQ
  · -- 2 not: l = nI 1
    refine And.intro (Wdo_142 hW) (Exists.intro _ (And.intro hq ?_))
    refine And.intro (NWo_0 hN) (Exists.intro _ (And.intro (NWr_0_31 hN) ?_))
    refine And.intro (NWi_15 hN (vi rfl (by omega))) ?_
    rw [nI_clamp (show p < 2 ^ 31 by omega)]
    rw [bput_hi (m := m) (x := 148) (n := 7) (D := E) (b := (q + 15)) (by omega)]
    rw [(hpr p hp).2.2.2.2.2.1]
    refine And.intro (Wdo_142 hW) (Exists.intro _ (And.intro hq ?_))
    refine And.intro (NWo_0 hN) (Exists.intro _ (And.intro (NWr_0_31 hN) ?_))
    refine And.intro (NWi_15 hN (vi rfl (by omega))) ?_
    rw [nI_clamp (show b < 2 ^ 31 by omega)]
    rw [bput_hi (m := m) (x := 148) (n := 7) (D := E) (b := (q + 15)) (by omega)]
    rw [(hpr b hb).2.2.2.2.2.1]
    refine And.intro (fun cz33 => ?_) (fun cz33 => ?_)
    · -- 33 taken: 0 < (Λ 9 (p * 7 + 5)) - (Λ 9 (b * 7 + 5))
      refine And.intro ⟨rfl, Or.inr rfl, Nat.le_refl _, Nat.le_refl _⟩ ?_
      have hwp : weF (Λ 9) l p = Λ 9 (p * 7 + 5) := by unfold weF; rw [if_pos cz2]
      have hwb : weF (Λ 9) l b = Λ 9 (b * 7 + 5) := by unfold weF; rw [if_pos cz2]
      unfold gaF at hQ
      rw [hwp, hwb] at hQ
      have hsc := sub_c (hGN p hp).1 (hGN b hb).1
      have hne : ¬ Λ 9 (p * 7 + 5) = Λ 9 (b * 7 + 5) := fun z => hsc.1.mp cz33 (by rw [z]; exact Int32.le_refl _)
      rw [if_neg hne, if_neg (hsc.1.mp cz33)] at hQ
      exact hQ
    · -- 33 not: ¬ 0 < (Λ 9 (p * 7 + 5)) - (Λ 9 (b * 7 + 5))
      refine And.intro (fun cz35 => ?_) (fun cz35 => ?_)
      · -- 35 taken: ¬ (Λ 9 (p * 7 + 5)) - (Λ 9 (b * 7 + 5)) = 0
        refine And.intro ⟨rfl, Or.inl rfl, Nat.le_refl _, Nat.le_refl _⟩ ?_
        have hwp : weF (Λ 9) l p = Λ 9 (p * 7 + 5) := by unfold weF; rw [if_pos cz2]
        have hwb : weF (Λ 9) l b = Λ 9 (b * 7 + 5) := by unfold weF; rw [if_pos cz2]
        unfold gaF at hQ
        rw [hwp, hwb] at hQ
        have hsc := sub_c (hGN p hp).1 (hGN b hb).1
        rw [if_neg (fun z => cz35 (hsc.2.mpr z)), if_pos (Classical.byContradiction fun z => cz33 (hsc.1.mpr z))] at hQ
        exact hQ
      · -- 35 not: (Λ 9 (p * 7 + 5)) - (Λ 9 (b * 7 + 5)) = 0
        refine And.intro (Wdo_142 hW) (Exists.intro _ (And.intro (Wdr_142_24 hW) ?_))
        refine And.intro (Wdi_149 hW (vi rfl (by omega))) ?_
        rw [nI_clamp (show p < 2 ^ 31 by omega)]
        rw [bput_r (x := 148) (f := 1) (by decide)]
        refine And.intro (Wdo_142 hW) (Exists.intro _ (And.intro (Wdr_142_24 hW) ?_))
        refine And.intro (Wdi_149 hW (vi rfl (by omega))) ?_
        rw [nI_clamp (show b < 2 ^ 31 by omega)]
        rw [bput_r (x := 148) (f := 1) (by decide)]
        refine And.intro (fun cz44 => ?_) (fun cz44 => ?_)
        · -- 44 taken: E 1 b ≤ E 1 p
          refine And.intro ⟨rfl, Or.inl rfl, Nat.le_refl _, Nat.le_refl _⟩ ?_
          have hwp : weF (Λ 9) l p = Λ 9 (p * 7 + 5) := by unfold weF; rw [if_pos cz2]
          have hwb : weF (Λ 9) l b = Λ 9 (b * 7 + 5) := by unfold weF; rw [if_pos cz2]
          unfold gaF at hQ
          rw [hwp, hwb] at hQ
          have hsc := sub_c (hGN p hp).1 (hGN b hb).1
          rw [if_pos (hsc.2.mp cz35), if_pos cz44] at hQ
          exact hQ
        · -- 44 not: ¬ E 1 b ≤ E 1 p
          refine And.intro ⟨rfl, Or.inr rfl, Nat.le_refl _, Nat.le_refl _⟩ ?_
          have hwp : weF (Λ 9) l p = Λ 9 (p * 7 + 5) := by unfold weF; rw [if_pos cz2]
          have hwb : weF (Λ 9) l b = Λ 9 (b * 7 + 5) := by unfold weF; rw [if_pos cz2]
          unfold gaF at hQ
          rw [hwp, hwb] at hQ
          have hsc := sub_c (hGN p hp).1 (hGN b hb).1
          rw [if_pos (hsc.2.mp cz35), if_neg cz44] at hQ
          exact hQ
