theorem C200 {d : Nat} {m : Mm} {Q : Option Value → Mm → Prop} (hW : Wd m.2.2) {x : Int32} (hQ : Q (some (.int (-nI 1))) (uI (uI m 142 1 x) 142 2 (-nI 1))) : Cc d 0 0 200 [.ref 142, .int x] m Q := by
  refine ent (n := 36) z200 (by decide) rfl (by decide) (Nat.le_of_ble_eq_true rfl) (fun sc => ?_)
  refine And.intro (Wdo_142 hW) ?_
  refine And.intro (Wdo_142 hW) ?_
  refine And.intro ⟨rfl, trivial, Nat.le_refl _, Nat.le_refl _⟩ ?_
  exact hQ
theorem C201 {d : Nat} {m : Mm} {Q : Option Value → Mm → Prop} (hd : 1 ≤ d) (hW : Wd m.2.2) {x : Int32} (hQ : Q (some (.int (nI 0))) (uI (uI m 142 1 x) 142 2 (-nI 1))) : Cc d 0 0 201 [.ref 142, .int x] m Q := by
  refine ent (n := 32) z201 (by decide) rfl (by decide) (Nat.le_of_ble_eq_true rfl) (fun sc => ?_)
  refine And.intro ⟨by omega, Nat.le_of_ble_eq_true rfl, Nat.le_refl _, Nat.le_refl _⟩ (And.intro (Wdo_142 hW) ?_)
  refine C200 hW ?_
  refine And.intro rfl ?_
  refine And.intro ⟨rfl, Or.inl rfl, Nat.le_refl _, Nat.le_refl _⟩ ?_
  exact hQ
theorem C202 {d : Nat} {m : Mm} {Q : Option Value → Mm → Prop} (hW : Wd m.2.2) {x : Int32} (hQ : Q (some (.int x)) (uI (uI m 142 1 (nI 0)) 142 2 (-nI 1))) : Cc d 0 0 202 [.ref 142, .int x] m Q := by
  refine ent (n := 36) z202 (by decide) rfl (by decide) (Nat.le_of_ble_eq_true rfl) (fun sc => ?_)
  refine And.intro (Wdo_142 hW) ?_
  refine And.intro (Wdo_142 hW) ?_
  refine And.intro ⟨rfl, trivial, Nat.le_refl _, Nat.le_refl _⟩ ?_
  exact hQ
theorem C203 {d : Nat} {m : Mm} {Q : Option Value → Mm → Prop} (hd : 1 ≤ d) (hW : Wd m.2.2) (hQ : Q (some (.int (nI 1))) (uI (uI m 142 1 (nI 0)) 142 2 (-nI 1))) : Cc d 0 0 203 [.ref 142] m Q := by
  refine ent (n := 32) z203 (by decide) rfl (by decide) (Nat.le_of_ble_eq_true rfl) (fun sc => ?_)
  refine And.intro ⟨by omega, Nat.le_of_ble_eq_true rfl, Nat.le_refl _, Nat.le_refl _⟩ (And.intro (Wdo_142 hW) ?_)
  refine C202 hW ?_
  refine And.intro rfl ?_
  refine And.intro ⟨rfl, Or.inr rfl, Nat.le_refl _, Nat.le_refl _⟩ ?_
  exact hQ
theorem C204 {d : Nat} {m : Mm} {Q : Option Value → Mm → Prop} {x l h : Int32} (hQ : Q (some (.int (bi (l ≤ x ∧ x ≤ h)))) m) : Cc d 0 0 204 [.int x, .int l, .int h] m Q := by
  refine ent (n := 40) z204 (by decide) rfl (by decide) (Nat.le_of_ble_eq_true rfl) (fun sc => ?_)
  refine And.intro (fun cz2 => ?_) (fun cz2 => ?_)
  · -- 2 taken: x < l
    refine And.intro ⟨rfl, Or.inl rfl, Nat.le_refl _, Nat.le_refl _⟩ ?_
    rw [bi_f (fun z => (Int32.not_lt.mpr z.1) cz2)] at hQ; exact hQ
  · -- 2 not: ¬ x < l
    refine And.intro (fun cz5 => ?_) (fun cz5 => ?_)
    · -- 5 taken: h < x
      refine And.intro ⟨rfl, Or.inl rfl, Nat.le_refl _, Nat.le_refl _⟩ ?_
      rw [bi_f (fun z => (Int32.not_lt.mpr z.2) cz5)] at hQ; exact hQ
    · -- 5 not: ¬ h < x
      refine And.intro ⟨rfl, Or.inr rfl, Nat.le_refl _, Nat.le_refl _⟩ ?_
      rw [bi_t ⟨Int32.not_lt.mp cz2, Int32.not_lt.mp cz5⟩] at hQ; exact hQ
theorem C205 {d : Nat} {m : Mm} {Q : Option Value → Mm → Prop} {x k : Int32} (hQ : Q (some (.int (bi (bq x k)))) m) : Cc d 0 0 205 [.int x, .int k] m Q := by
  refine ent (n := 42) z205 (by decide) rfl (by decide) (Nat.le_of_ble_eq_true rfl) (fun sc => ?_)
  refine And.intro (fun cz6 => ?_) (fun cz6 => ?_)
  · -- 6 taken: ¬ (x >>> (k &&& 31)) &&& nI 1 = nI 1
    refine And.intro ⟨rfl, Or.inl rfl, Nat.le_refl _, Nat.le_refl _⟩ ?_
    rw [bi_f cz6] at hQ; exact hQ
  · -- 6 not: (x >>> (k &&& 31)) &&& nI 1 = nI 1
    refine And.intro ⟨rfl, Or.inr rfl, Nat.le_refl _, Nat.le_refl _⟩ ?_
    rw [bi_t cz6] at hQ; exact hQ
theorem C197 {d : Nat} {m : Mm} {Q : Option Value → Mm → Prop} {q g t s : Nat} (hN : NW m.2.2 q) (hg : g < 6) (ht : t < 6) (hs : s < 5) (hQ : Q (some (.int (mI m (q + 7) ((g * 6 + t) * 5 + s)))) m) : Cc d 0 0 197 [.ref q, .int (nI g), .int (nI t), .int (nI s)] m Q := by
  refine ent (n := 46) z197 (by decide) rfl (by decide) (Nat.le_of_ble_eq_true rfl) (fun sc => ?_)
  refine And.intro (NWo_0 hN) (Exists.intro _ (And.intro (NWr_0_23 hN) ?_))
  refine And.intro (NWi_7 hN (vi (show (nI 6 * nI g + nI t) * nI 5 + nI s = nI ((g * 6 + t) * 5 + s) by simp only [nI_add, pk_mul, Nat.mul_comm 6 g]) (by omega))) ?_
  rw [vc (show (nI 6 * nI g + nI t) * nI 5 + nI s = nI ((g * 6 + t) * 5 + s) by simp only [nI_add, pk_mul, Nat.mul_comm 6 g]) (by omega)]
  refine And.intro ⟨rfl, trivial, Nat.le_refl _, Nat.le_refl _⟩ ?_
  exact hQ
theorem C256 {d : Nat} {m : Mm} {Q : Option Value → Mm → Prop} {q : Nat} (hW : Wd m.2.2) (hN : NW m.2.2 q) (hq : va_rf (mR m 142 3) = .ref q) {g t s : Nat} {h : Int32} (hd : 1 ≤ d) (hg : g < 6) (ht : t < 6) (hs : s < 5) (hQ : Q (some (.int (bi (bq (mI m (q + 7) ((g * 6 + t) * 5 + s)) h)))) m) : Cc d 0 0 256 [.ref 142, .int (nI g), .int (nI t), .int (nI s), .int h] m Q := by
  refine ent (n := 38) z256 (by decide) rfl (by decide) (Nat.le_of_ble_eq_true rfl) (fun sc => ?_)
  refine And.intro (Wdo_142 hW) (Exists.intro _ (And.intro hq ?_))
  refine And.intro ⟨by omega, Nat.le_of_ble_eq_true rfl, Nat.le_refl _, Nat.le_refl _⟩ (And.intro (NWo_0 hN) ?_)
  refine C197 (g := g) (t := t) (s := s) hN (by omega) (by omega) (by omega) ?_
  refine And.intro ⟨by omega, Nat.le_of_ble_eq_true rfl, Nat.le_refl _, Nat.le_refl _⟩ ?_
  refine C205 ?_
  refine And.intro ⟨rfl, bi_01, Nat.le_refl _, Nat.le_refl _⟩ ?_
  exact hQ
theorem C260 {d : Nat} {m : Mm} {Q : Option Value → Mm → Prop} {q : Nat} (hW : Wd m.2.2) (hN : NW m.2.2 q) (hq : va_rf (mR m 142 3) = .ref q) {x : Int32} (hd : 1 ≤ d) (hQ : Q (some (.int (bi (bq (mI m q 4) x)))) m) : Cc d 0 0 260 [.ref 142, .int x] m Q := by
  refine ent (n := 32) z260 (by decide) rfl (by decide) (Nat.le_of_ble_eq_true rfl) (fun sc => ?_)
  refine And.intro (Wdo_142 hW) (Exists.intro _ (And.intro hq ?_))
  refine And.intro (NWo_0 hN) ?_
  refine And.intro ⟨by omega, Nat.le_of_ble_eq_true rfl, Nat.le_refl _, Nat.le_refl _⟩ ?_
  refine C205 ?_
  refine And.intro ⟨rfl, bi_01, Nat.le_refl _, Nat.le_refl _⟩ ?_
  exact hQ
theorem C253 {d : Nat} {m : Mm} {Q : Option Value → Mm → Prop} {q : Nat} (hW : Wd m.2.2) (hN : NW m.2.2 q) (hq : va_rf (mR m 142 3) = .ref q) {g : Nat} (hd : 1 ≤ d) (hg : g < 6) (hQ : Q (some (.int (bi (mI m (q + 2) g = nI 3 ∨ bq (mI m 145 0) (nI g))))) m) : Cc d 0 0 253 [.ref 142, .int (nI g)] m Q := by
  refine ent (n := 56) z253 (by decide) rfl (by decide) (Nat.le_of_ble_eq_true rfl) (fun sc => ?_)
  refine And.intro (Wdo_142 hW) (Exists.intro _ (And.intro hq ?_))
  refine And.intro (NWo_0 hN) (Exists.intro _ (And.intro (NWr_0_18 hN) ?_))
  refine And.intro (NWi_2 hN (vi rfl (by omega))) ?_
  rw [nI_clamp (show g < 2 ^ 31 by omega)]
  refine And.intro (fun cz6 => ?_) (fun cz6 => ?_)
  · -- 6 taken: mI m (q + 2) g = nI 3
    refine And.intro ⟨rfl, Or.inr rfl, Nat.le_refl _, Nat.le_refl _⟩ ?_
    rw [bi_t (Or.inl cz6)] at hQ; exact hQ
  · -- 6 not: ¬ mI m (q + 2) g = nI 3
    refine And.intro (Wdo_142 hW) (Exists.intro _ (And.intro (Wdr_142_18 hW) ?_))
    refine And.intro (Wdi_145 hW (vi rfl (by omega))) ?_
    rw [nI_clamp (show 0 < 2 ^ 31 by omega)]
    refine And.intro ⟨by omega, Nat.le_of_ble_eq_true rfl, Nat.le_refl _, Nat.le_refl _⟩ ?_
    refine C205 ?_
    refine And.intro (fun cz13 => ?_) (fun cz13 => ?_)
    · -- 13 taken: bi (bq (mI m 145 0) (nI g)) = 0
      refine And.intro ⟨rfl, Or.inl rfl, Nat.le_refl _, Nat.le_refl _⟩ ?_
      rw [bi_f (fun z => z.elim cz6 (bi_eq0.mp cz13))] at hQ; exact hQ
    · -- 13 not: ¬ bi (bq (mI m 145 0) (nI g)) = 0
      refine And.intro ⟨rfl, Or.inr rfl, Nat.le_refl _, Nat.le_refl _⟩ ?_
      rw [bi_t (Or.inr (bi_ne0.mp cz13))] at hQ; exact hQ
theorem C254 {d : Nat} {m : Mm} {Q : Option Value → Mm → Prop} {q : Nat} (hW : Wd m.2.2) (hN : NW m.2.2 q) (hq : va_rf (mR m 142 3) = .ref q) {g : Nat} {h : Int32} (hd : 2 ≤ d) (hg : g < 6) (hQ : Q (some (.int (bi (¬ (mI m (q + 2) g = nI 3 ∨ bq (mI m 145 0) (nI g)) ∧ mI m (q + 5) g ≤ h ∧ h < mI m (q + 6) g)))) m) : Cc d 0 0 254 [.ref 142, .int (nI g), .int h] m Q := by
  refine ent (n := 64) z254 (by decide) rfl (by decide) (Nat.le_of_ble_eq_true rfl) (fun sc => ?_)
  refine And.intro ⟨by omega, Nat.le_of_ble_eq_true rfl, Nat.le_refl _, Nat.le_refl _⟩ (And.intro (Wdo_142 hW) ?_)
  refine C253 (g := g) hW hN hq (by omega) (by omega) ?_
  refine And.intro (fun cz3 => ?_) (fun cz3 => ?_)
  · -- 3 taken: ¬ bi (mI m (q + 2) g = nI 3 ∨ bq (mI m 145 0) (nI g)) = 0
    refine And.intro ⟨rfl, Or.inl rfl, Nat.le_refl _, Nat.le_refl _⟩ ?_
    rw [bi_f (fun z => z.1 (bi_ne0.mp cz3))] at hQ; exact hQ
  · -- 3 not: bi (mI m (q + 2) g = nI 3 ∨ bq (mI m 145 0) (nI g)) = 0
    refine And.intro (Wdo_142 hW) (Exists.intro _ (And.intro hq ?_))
    refine And.intro (NWo_0 hN) (Exists.intro _ (And.intro (NWr_0_21 hN) ?_))
    refine And.intro (NWi_5 hN (vi rfl (by omega))) ?_
    rw [nI_clamp (show g < 2 ^ 31 by omega)]
    refine And.intro (fun cz10 => ?_) (fun cz10 => ?_)
    · -- 10 taken: h < mI m (q + 5) g
      refine And.intro ⟨rfl, Or.inl rfl, Nat.le_refl _, Nat.le_refl _⟩ ?_
      rw [bi_f (fun z => (Int32.not_lt.mpr z.2.1) cz10)] at hQ; exact hQ
    · -- 10 not: ¬ h < mI m (q + 5) g
      refine And.intro (Wdo_142 hW) (Exists.intro _ (And.intro hq ?_))
      refine And.intro (NWo_0 hN) (Exists.intro _ (And.intro (NWr_0_22 hN) ?_))
      refine And.intro (NWi_6 hN (vi rfl (by omega))) ?_
      rw [nI_clamp (show g < 2 ^ 31 by omega)]
      refine And.intro (fun cz17 => ?_) (fun cz17 => ?_)
      · -- 17 taken: mI m (q + 6) g ≤ h
        refine And.intro ⟨rfl, Or.inl rfl, Nat.le_refl _, Nat.le_refl _⟩ ?_
        rw [bi_f (fun z => (Int32.not_le.mpr z.2.2) cz17)] at hQ; exact hQ
      · -- 17 not: ¬ mI m (q + 6) g ≤ h
        refine And.intro ⟨rfl, Or.inr rfl, Nat.le_refl _, Nat.le_refl _⟩ ?_
        rw [bi_t ⟨bi_eq0.mp cz3, Int32.not_lt.mp cz10, Int32.not_le.mp cz17⟩] at hQ; exact hQ
def iaF (gif nee sin : Nat → Int32) (p p2 : Nat) (l : Int32) : Int32 := if l = nI 1 then (if 0 < (gif p) - (gif p2) then nI 1 else (if (gif p) - (gif p2) = 0 then (if sin p2 ≤ sin p then nI 0 else nI 1) else nI 0)) else (if l = nI 2 then (if 0 < (nee p) - (nee p2) then nI 1 else (if (nee p) - (nee p2) = 0 then (if sin p2 ≤ sin p then nI 0 else nI 1) else nI 0)) else (if 0 < nI 0 then nI 1 else (if nI 0 = 0 then (if sin p2 ≤ sin p then nI 0 else nI 1) else nI 0)))
theorem C274 {d : Nat} {m : Mm} {Q : Option Value → Mm → Prop} {q : Nat} (hW : Wd m.2.2) (hN : NW m.2.2 q) (hq : va_rf (mR m 142 3) = .ref q) {p p2 : Nat} {l : Int32} (hp : p < 8) (hp2 : p2 < 8) (hQ : Q (some (.int (iaF (mI m (q + 15)) (mI m (q + 16)) (mI m 149) p p2 l))) m) : Cc d 0 0 274 [.ref 142, .int (nI p), .int (nI p2), .int l] m Q := by
  refine ent (n := 118) z274 (by decide) rfl (by decide) (Nat.le_of_ble_eq_true rfl) (fun sc => ?_)
  refine And.intro (fun cz2 => ?_) (fun cz2 => ?_)
  · -- 2 taken: ¬ l = nI 1
    refine And.intro (fun cz17 => ?_) (fun cz17 => ?_)
    · -- 17 taken: ¬ l = nI 2
      refine And.intro (fun cz33 => ?_) (fun cz33 => ?_)
      · -- 33 taken: 0 < nI 0
        have kz33 : 0 < 0 := klt (a := 0) (b := 0) rfl rfl (by omega) (by omega) cz33
        refine And.intro ⟨rfl, Or.inr rfl, Nat.le_refl _, Nat.le_refl _⟩ ?_
        unfold iaF at hQ
        rw [if_neg cz2, if_neg cz17, if_pos cz33] at hQ
        exact hQ
      · -- 33 not: ¬ 0 < nI 0
        have kz33 : 0 ≤ 0 := knlt (a := 0) (b := 0) rfl rfl (by omega) (by omega) cz33
        refine And.intro (fun cz35 => ?_) (fun cz35 => ?_)
        · -- 35 taken: ¬ nI 0 = 0
          have kz35 : 0 ≠ 0 := kne (a := 0) (b := 0) rfl rfl (by omega) (by omega) cz35
          refine And.intro ⟨rfl, Or.inl rfl, Nat.le_refl _, Nat.le_refl _⟩ ?_
          unfold iaF at hQ
          rw [if_neg cz2, if_neg cz17, if_neg cz33, if_neg cz35] at hQ
          exact hQ
        · -- 35 not: nI 0 = 0
          have kz35 : 0 = 0 := keq (a := 0) (b := 0) rfl rfl (by omega) (by omega) cz35
          refine And.intro (Wdo_142 hW) (Exists.intro _ (And.intro (Wdr_142_24 hW) ?_))
          refine And.intro (Wdi_149 hW (vi rfl (by omega))) ?_
          rw [nI_clamp (show p < 2 ^ 31 by omega)]
          refine And.intro (Wdo_142 hW) (Exists.intro _ (And.intro (Wdr_142_24 hW) ?_))
          refine And.intro (Wdi_149 hW (vi rfl (by omega))) ?_
          rw [nI_clamp (show p2 < 2 ^ 31 by omega)]
          refine And.intro (fun cz44 => ?_) (fun cz44 => ?_)
          · -- 44 taken: mI m 149 p2 ≤ mI m 149 p
            refine And.intro ⟨rfl, Or.inl rfl, Nat.le_refl _, Nat.le_refl _⟩ ?_
            unfold iaF at hQ
            rw [if_neg cz2, if_neg cz17, if_neg cz33, if_pos cz35, if_pos cz44] at hQ
            exact hQ
          · -- 44 not: ¬ mI m 149 p2 ≤ mI m 149 p
            refine And.intro ⟨rfl, Or.inr rfl, Nat.le_refl _, Nat.le_refl _⟩ ?_
            unfold iaF at hQ
            rw [if_neg cz2, if_neg cz17, if_neg cz33, if_pos cz35, if_neg cz44] at hQ
            exact hQ
    · -- 17 not: l = nI 2
      refine And.intro (Wdo_142 hW) (Exists.intro _ (And.intro hq ?_))
      refine And.intro (NWo_0 hN) (Exists.intro _ (And.intro (NWr_0_32 hN) ?_))
      refine And.intro (NWi_16 hN (vi rfl (by omega))) ?_
      rw [nI_clamp (show p < 2 ^ 31 by omega)]
      refine And.intro (Wdo_142 hW) (Exists.intro _ (And.intro hq ?_))
      refine And.intro (NWo_0 hN) (Exists.intro _ (And.intro (NWr_0_32 hN) ?_))
      refine And.intro (NWi_16 hN (vi rfl (by omega))) ?_
      rw [nI_clamp (show p2 < 2 ^ 31 by omega)]
      refine And.intro (fun cz33 => ?_) (fun cz33 => ?_)
      · -- 33 taken: 0 < (mI m (q + 16) p) - (mI m (q + 16) p2)
        refine And.intro ⟨rfl, Or.inr rfl, Nat.le_refl _, Nat.le_refl _⟩ ?_
        unfold iaF at hQ
        rw [if_neg cz2, if_pos cz17, if_pos cz33] at hQ
        exact hQ
      · -- 33 not: ¬ 0 < (mI m (q + 16) p) - (mI m (q + 16) p2)
        refine And.intro (fun cz35 => ?_) (fun cz35 => ?_)
        · -- 35 taken: ¬ (mI m (q + 16) p) - (mI m (q + 16) p2) = 0
          refine And.intro ⟨rfl, Or.inl rfl, Nat.le_refl _, Nat.le_refl _⟩ ?_
          unfold iaF at hQ
          rw [if_neg cz2, if_pos cz17, if_neg cz33, if_neg cz35] at hQ
          exact hQ
        · -- 35 not: (mI m (q + 16) p) - (mI m (q + 16) p2) = 0
          refine And.intro (Wdo_142 hW) (Exists.intro _ (And.intro (Wdr_142_24 hW) ?_))
          refine And.intro (Wdi_149 hW (vi rfl (by omega))) ?_
          rw [nI_clamp (show p < 2 ^ 31 by omega)]
          refine And.intro (Wdo_142 hW) (Exists.intro _ (And.intro (Wdr_142_24 hW) ?_))
          refine And.intro (Wdi_149 hW (vi rfl (by omega))) ?_
          rw [nI_clamp (show p2 < 2 ^ 31 by omega)]
          refine And.intro (fun cz44 => ?_) (fun cz44 => ?_)
          · -- 44 taken: mI m 149 p2 ≤ mI m 149 p
            refine And.intro ⟨rfl, Or.inl rfl, Nat.le_refl _, Nat.le_refl _⟩ ?_
            unfold iaF at hQ
            rw [if_neg cz2, if_pos cz17, if_neg cz33, if_pos cz35, if_pos cz44] at hQ
            exact hQ
          · -- 44 not: ¬ mI m 149 p2 ≤ mI m 149 p
            refine And.intro ⟨rfl, Or.inr rfl, Nat.le_refl _, Nat.le_refl _⟩ ?_
            unfold iaF at hQ
            rw [if_neg cz2, if_pos cz17, if_neg cz33, if_pos cz35, if_neg cz44] at hQ
            exact hQ
  · -- 2 not: l = nI 1
    refine And.intro (Wdo_142 hW) (Exists.intro _ (And.intro hq ?_))
    refine And.intro (NWo_0 hN) (Exists.intro _ (And.intro (NWr_0_31 hN) ?_))
    refine And.intro (NWi_15 hN (vi rfl (by omega))) ?_
    rw [nI_clamp (show p < 2 ^ 31 by omega)]
    refine And.intro (Wdo_142 hW) (Exists.intro _ (And.intro hq ?_))
    refine And.intro (NWo_0 hN) (Exists.intro _ (And.intro (NWr_0_31 hN) ?_))
    refine And.intro (NWi_15 hN (vi rfl (by omega))) ?_
    rw [nI_clamp (show p2 < 2 ^ 31 by omega)]
    refine And.intro (fun cz33 => ?_) (fun cz33 => ?_)
    · -- 33 taken: 0 < (mI m (q + 15) p) - (mI m (q + 15) p2)
      refine And.intro ⟨rfl, Or.inr rfl, Nat.le_refl _, Nat.le_refl _⟩ ?_
      unfold iaF at hQ
      rw [if_pos cz2, if_pos cz33] at hQ
      exact hQ
    · -- 33 not: ¬ 0 < (mI m (q + 15) p) - (mI m (q + 15) p2)
      refine And.intro (fun cz35 => ?_) (fun cz35 => ?_)
      · -- 35 taken: ¬ (mI m (q + 15) p) - (mI m (q + 15) p2) = 0
        refine And.intro ⟨rfl, Or.inl rfl, Nat.le_refl _, Nat.le_refl _⟩ ?_
        unfold iaF at hQ
        rw [if_pos cz2, if_neg cz33, if_neg cz35] at hQ
        exact hQ
      · -- 35 not: (mI m (q + 15) p) - (mI m (q + 15) p2) = 0
        refine And.intro (Wdo_142 hW) (Exists.intro _ (And.intro (Wdr_142_24 hW) ?_))
        refine And.intro (Wdi_149 hW (vi rfl (by omega))) ?_
        rw [nI_clamp (show p < 2 ^ 31 by omega)]
        refine And.intro (Wdo_142 hW) (Exists.intro _ (And.intro (Wdr_142_24 hW) ?_))
        refine And.intro (Wdi_149 hW (vi rfl (by omega))) ?_
        rw [nI_clamp (show p2 < 2 ^ 31 by omega)]
        refine And.intro (fun cz44 => ?_) (fun cz44 => ?_)
        · -- 44 taken: mI m 149 p2 ≤ mI m 149 p
          refine And.intro ⟨rfl, Or.inl rfl, Nat.le_refl _, Nat.le_refl _⟩ ?_
          unfold iaF at hQ
          rw [if_pos cz2, if_neg cz33, if_pos cz35, if_pos cz44] at hQ
          exact hQ
        · -- 44 not: ¬ mI m 149 p2 ≤ mI m 149 p
          refine And.intro ⟨rfl, Or.inr rfl, Nat.le_refl _, Nat.le_refl _⟩ ?_
          unfold iaF at hQ
          rw [if_pos cz2, if_neg cz33, if_pos cz35, if_neg cz44] at hQ
          exact hQ
def mlF (fat don hou : Nat → Int32) (p : Nat) : Int32 := if fat p = 0 then (if don p ≤ hou p then nI 0 else nI 1) else nI 0
theorem C284 {d : Nat} {m : Mm} {Q : Option Value → Mm → Prop} {q : Nat} (hW : Wd m.2.2) (hN : NW m.2.2 q) (hq : va_rf (mR m 142 3) = .ref q) {p : Nat} (hp : p < 8) (hQ : Q (some (.int (mlF (mI m 150) (mI m 151) (mI m (q + 12)) p))) m) : Cc d 0 0 284 [.ref 142, .int (nI p)] m Q := by
  refine ent (n := 58) z284 (by decide) rfl (by decide) (Nat.le_of_ble_eq_true rfl) (fun sc => ?_)
  refine And.intro (Wdo_142 hW) (Exists.intro _ (And.intro (Wdr_142_25 hW) ?_))
  refine And.intro (Wdi_150 hW (vi rfl (by omega))) ?_
  rw [nI_clamp (show p < 2 ^ 31 by omega)]
  refine And.intro (fun cz4 => ?_) (fun cz4 => ?_)
  · -- 4 taken: ¬ mI m 150 p = 0
    refine And.intro ⟨rfl, Or.inl rfl, Nat.le_refl _, Nat.le_refl _⟩ ?_
    unfold mlF at hQ
    rw [if_neg cz4] at hQ
    exact hQ
  · -- 4 not: mI m 150 p = 0
    refine And.intro (Wdo_142 hW) (Exists.intro _ (And.intro (Wdr_142_26 hW) ?_))
    refine And.intro (Wdi_151 hW (vi rfl (by omega))) ?_
    rw [nI_clamp (show p < 2 ^ 31 by omega)]
    refine And.intro (Wdo_142 hW) (Exists.intro _ (And.intro hq ?_))
    refine And.intro (NWo_0 hN) (Exists.intro _ (And.intro (NWr_0_28 hN) ?_))
    refine And.intro (NWi_12 hN (vi rfl (by omega))) ?_
    rw [nI_clamp (show p < 2 ^ 31 by omega)]
    refine And.intro (fun cz14 => ?_) (fun cz14 => ?_)
    · -- 14 taken: mI m 151 p ≤ mI m (q + 12) p
      refine And.intro ⟨rfl, Or.inl rfl, Nat.le_refl _, Nat.le_refl _⟩ ?_
      unfold mlF at hQ
      rw [if_pos cz4, if_pos cz14] at hQ
      exact hQ
    · -- 14 not: ¬ mI m 151 p ≤ mI m (q + 12) p
      refine And.intro ⟨rfl, Or.inr rfl, Nat.le_refl _, Nat.le_refl _⟩ ?_
      unfold mlF at hQ
      rw [if_pos cz4, if_neg cz14] at hQ
      exact hQ
def luF (l : Int32) : Int32 := if l = -nI 1 then nI 0 else l
theorem C311 {d : Nat} {m : Mm} {Q : Option Value → Mm → Prop} {q : Nat} (hW : Wd m.2.2) (hN : NW m.2.2 q) (hq : va_rf (mR m 142 3) = .ref q)  (hQ : Q (some (.int (luF (mI m q 16)))) m) : Cc d 0 0 311 [.ref 142] m Q := by
  refine ent (n := 42) z311 (by decide) rfl (by decide) (Nat.le_of_ble_eq_true rfl) (fun sc => ?_)
  refine And.intro (Wdo_142 hW) (Exists.intro _ (And.intro hq ?_))
  refine And.intro (NWo_0 hN) ?_
  refine And.intro (fun cz4 => ?_) (fun cz4 => ?_)
  · -- 4 taken: ¬ mI m q 16 = -nI 1
    refine And.intro (Wdo_142 hW) (Exists.intro _ (And.intro hq ?_))
    refine And.intro (NWo_0 hN) ?_
    refine And.intro ⟨rfl, trivial, Nat.le_refl _, Nat.le_refl _⟩ ?_
    unfold luF at hQ
    rw [if_neg cz4] at hQ
    exact hQ
  · -- 4 not: mI m q 16 = -nI 1
    refine And.intro ⟨rfl, trivial, Nat.le_refl _, Nat.le_refl _⟩ ?_
    unfold luF at hQ
    rw [if_pos cz4] at hQ
    exact hQ
theorem C294 {d : Nat} {m : Mm} {Q : Option Value → Mm → Prop} {q : Nat} (hW : Wd m.2.2) (hN : NW m.2.2 q) (hq : va_rf (mR m 142 3) = .ref q) (hQ : Q (some (.int (nI 1 <<< (mI m q 6 &&& 31) - nI 1))) m) : Cc d 0 0 294 [.ref 142] m Q := by
  refine ent (n := 36) z294 (by decide) rfl (by decide) (Nat.le_of_ble_eq_true rfl) (fun sc => ?_)
  refine And.intro (Wdo_142 hW) (Exists.intro _ (And.intro hq ?_))
  refine And.intro (NWo_0 hN) ?_
  refine And.intro ⟨rfl, trivial, Nat.le_refl _, Nat.le_refl _⟩ ?_
  exact hQ
