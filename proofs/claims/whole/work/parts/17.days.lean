def stF (fat at_ cam : Nat → Int32) (p : Nat) (g h : Int32) : Int32 := if fat p = nI 2 then (if at_ p = g then (if h < cam p then nI 0 else nI 1) else nI 0) else nI 0
theorem C5 {d : Nat} {m : Mm} {Q : Option Value → Mm → Prop} {x : Nat} (hD : DW m.2.2 x) {p : Nat} {g h : Int32} (hp : p < 8) (hQ : Q (some (.int (stF (mI m (x + 1)) (mI m (x + 5)) (mI m (x + 6)) p g h))) m) : Cc d 0 0 5 [.ref x, .int (nI p), .int g, .int h] m Q := by
  refine ent (n := 64) z5 (by decide) rfl (by decide) (Nat.le_of_ble_eq_true rfl) (fun sc => ?_)
  refine And.intro (DWo_0 hD) (Exists.intro _ (And.intro (DWr_0_0 hD) ?_))
  refine And.intro (DWi_1 hD (vi rfl (by omega))) ?_
  rw [nI_clamp (show p < 2 ^ 31 by omega)]
  refine And.intro (fun cz5 => ?_) (fun cz5 => ?_)
  · -- 5 taken: ¬ mI m (x + 1) p = nI 2
    refine And.intro ⟨rfl, Or.inl rfl, Nat.le_refl _, Nat.le_refl _⟩ ?_
    unfold stF at hQ
    rw [if_neg cz5] at hQ
    exact hQ
  · -- 5 not: mI m (x + 1) p = nI 2
    refine And.intro (DWo_0 hD) (Exists.intro _ (And.intro (DWr_0_4 hD) ?_))
    refine And.intro (DWi_5 hD (vi rfl (by omega))) ?_
    rw [nI_clamp (show p < 2 ^ 31 by omega)]
    refine And.intro (fun cz11 => ?_) (fun cz11 => ?_)
    · -- 11 taken: ¬ mI m (x + 5) p = g
      refine And.intro ⟨rfl, Or.inl rfl, Nat.le_refl _, Nat.le_refl _⟩ ?_
      unfold stF at hQ
      rw [if_pos cz5, if_neg cz11] at hQ
      exact hQ
    · -- 11 not: mI m (x + 5) p = g
      refine And.intro (DWo_0 hD) (Exists.intro _ (And.intro (DWr_0_5 hD) ?_))
      refine And.intro (DWi_6 hD (vi rfl (by omega))) ?_
      rw [nI_clamp (show p < 2 ^ 31 by omega)]
      refine And.intro (fun cz17 => ?_) (fun cz17 => ?_)
      · -- 17 taken: h < mI m (x + 6) p
        refine And.intro ⟨rfl, Or.inl rfl, Nat.le_refl _, Nat.le_refl _⟩ ?_
        unfold stF at hQ
        rw [if_pos cz5, if_pos cz11, if_pos cz17] at hQ
        exact hQ
      · -- 17 not: ¬ h < mI m (x + 6) p
        refine And.intro ⟨rfl, Or.inr rfl, Nat.le_refl _, Nat.le_refl _⟩ ?_
        unfold stF at hQ
        rw [if_pos cz5, if_pos cz11, if_neg cz17] at hQ
        exact hQ
def gaF (wei cam : Nat → Int32) (p q : Nat) : Int32 := if wei p = wei q then (if cam q ≤ cam p then nI 0 else nI 1) else (if wei p ≤ wei q then nI 0 else nI 1)
theorem C9 {d : Nat} {m : Mm} {Q : Option Value → Mm → Prop} {x : Nat} (hD : DW m.2.2 x) {p q : Nat} (hp : p < 8) (hq : q < 8) (hQ : Q (some (.int (gaF (mI m (x + 4)) (mI m (x + 6)) p q))) m) : Cc d 0 0 9 [.ref x, .int (nI p), .int (nI q)] m Q := by
  refine ent (n := 90) z9 (by decide) rfl (by decide) (Nat.le_of_ble_eq_true rfl) (fun sc => ?_)
  refine And.intro (DWo_0 hD) (Exists.intro _ (And.intro (DWr_0_3 hD) ?_))
  refine And.intro (DWi_4 hD (vi rfl (by omega))) ?_
  rw [nI_clamp (show p < 2 ^ 31 by omega)]
  refine And.intro (DWo_0 hD) (Exists.intro _ (And.intro (DWr_0_3 hD) ?_))
  refine And.intro (DWi_4 hD (vi rfl (by omega))) ?_
  rw [nI_clamp (show q < 2 ^ 31 by omega)]
  refine And.intro (fun cz8 => ?_) (fun cz8 => ?_)
  · -- 8 taken: mI m (x + 4) p = mI m (x + 4) q
    refine And.intro (DWo_0 hD) (Exists.intro _ (And.intro (DWr_0_5 hD) ?_))
    refine And.intro (DWi_6 hD (vi rfl (by omega))) ?_
    rw [nI_clamp (show p < 2 ^ 31 by omega)]
    refine And.intro (DWo_0 hD) (Exists.intro _ (And.intro (DWr_0_5 hD) ?_))
    refine And.intro (DWi_6 hD (vi rfl (by omega))) ?_
    rw [nI_clamp (show q < 2 ^ 31 by omega)]
    refine And.intro (fun cz30 => ?_) (fun cz30 => ?_)
    · -- 30 taken: mI m (x + 6) q ≤ mI m (x + 6) p
      refine And.intro ⟨rfl, Or.inl rfl, Nat.le_refl _, Nat.le_refl _⟩ ?_
      unfold gaF at hQ
      rw [if_pos cz8, if_pos cz30] at hQ
      exact hQ
    · -- 30 not: ¬ mI m (x + 6) q ≤ mI m (x + 6) p
      refine And.intro ⟨rfl, Or.inr rfl, Nat.le_refl _, Nat.le_refl _⟩ ?_
      unfold gaF at hQ
      rw [if_pos cz8, if_neg cz30] at hQ
      exact hQ
  · -- 8 not: ¬ mI m (x + 4) p = mI m (x + 4) q
    refine And.intro (DWo_0 hD) (Exists.intro _ (And.intro (DWr_0_3 hD) ?_))
    refine And.intro (DWi_4 hD (vi rfl (by omega))) ?_
    rw [nI_clamp (show p < 2 ^ 31 by omega)]
    refine And.intro (DWo_0 hD) (Exists.intro _ (And.intro (DWr_0_3 hD) ?_))
    refine And.intro (DWi_4 hD (vi rfl (by omega))) ?_
    rw [nI_clamp (show q < 2 ^ 31 by omega)]
    refine And.intro (fun cz17 => ?_) (fun cz17 => ?_)
    · -- 17 taken: mI m (x + 4) p ≤ mI m (x + 4) q
      refine And.intro ⟨rfl, Or.inl rfl, Nat.le_refl _, Nat.le_refl _⟩ ?_
      unfold gaF at hQ
      rw [if_neg cz8, if_pos cz17] at hQ
      exact hQ
    · -- 17 not: ¬ mI m (x + 4) p ≤ mI m (x + 4) q
      refine And.intro ⟨rfl, Or.inr rfl, Nat.le_refl _, Nat.le_refl _⟩ ?_
      unfold gaF at hQ
      rw [if_neg cz8, if_neg cz17] at hQ
      exact hQ
def ltF (fat end_ due : Nat → Int32) (p : Nat) : Int32 := if fat p = 0 then (if end_ p ≤ due p then nI 0 else nI 1) else nI 0
theorem C13 {d : Nat} {m : Mm} {Q : Option Value → Mm → Prop} {x : Nat} (hD : DW m.2.2 x) {p : Nat} (hp : p < 8) (hQ : Q (some (.int (ltF (mI m (x + 1)) (mI m (x + 2)) (mI m (x + 3)) p))) m) : Cc d 0 0 13 [.ref x, .int (nI p)] m Q := by
  refine ent (n := 56) z13 (by decide) rfl (by decide) (Nat.le_of_ble_eq_true rfl) (fun sc => ?_)
  refine And.intro (DWo_0 hD) (Exists.intro _ (And.intro (DWr_0_0 hD) ?_))
  refine And.intro (DWi_1 hD (vi rfl (by omega))) ?_
  rw [nI_clamp (show p < 2 ^ 31 by omega)]
  refine And.intro (fun cz4 => ?_) (fun cz4 => ?_)
  · -- 4 taken: ¬ mI m (x + 1) p = 0
    refine And.intro ⟨rfl, Or.inl rfl, Nat.le_refl _, Nat.le_refl _⟩ ?_
    unfold ltF at hQ
    rw [if_neg cz4] at hQ
    exact hQ
  · -- 4 not: mI m (x + 1) p = 0
    refine And.intro (DWo_0 hD) (Exists.intro _ (And.intro (DWr_0_1 hD) ?_))
    refine And.intro (DWi_2 hD (vi rfl (by omega))) ?_
    rw [nI_clamp (show p < 2 ^ 31 by omega)]
    refine And.intro (DWo_0 hD) (Exists.intro _ (And.intro (DWr_0_2 hD) ?_))
    refine And.intro (DWi_3 hD (vi rfl (by omega))) ?_
    rw [nI_clamp (show p < 2 ^ 31 by omega)]
    refine And.intro (fun cz13 => ?_) (fun cz13 => ?_)
    · -- 13 taken: mI m (x + 2) p ≤ mI m (x + 3) p
      refine And.intro ⟨rfl, Or.inl rfl, Nat.le_refl _, Nat.le_refl _⟩ ?_
      unfold ltF at hQ
      rw [if_pos cz4, if_pos cz13] at hQ
      exact hQ
    · -- 13 not: ¬ mI m (x + 2) p ≤ mI m (x + 3) p
      refine And.intro ⟨rfl, Or.inr rfl, Nat.le_refl _, Nat.le_refl _⟩ ?_
      unfold ltF at hQ
      rw [if_pos cz4, if_neg cz13] at hQ
      exact hQ
theorem C14 {d : Nat} {m : Mm} {Q : Option Value → Mm → Prop} {x : Nat} (hD : DW m.2.2 x) {p i : Nat} (hp : p < 8) (hi : i < 97) (hQ : Q (some (.int (mI m (x + 10) (p * 97 + i)))) m) : Cc d 0 0 14 [.ref x, .int (nI p), .int (nI i)] m Q := by
  refine ent (n := 52) z14 (by decide) rfl (by decide) (Nat.le_of_ble_eq_true rfl) (fun sc => ?_)
  refine And.intro (fun cz1 => ?_) (fun cz1 => ?_)
  · -- 1 taken: nI i < 0
    exact absurd cz1 (nI_pos (show i < 2 ^ 31 by omega))
  · -- 1 not: ¬ nI i < 0
    refine And.intro (fun cz4 => ?_) (fun cz4 => ?_)
    · -- 4 taken: nI 97 ≤ nI i
      have kz4 : 97 ≤ i := kle (a := 97) (b := i) rfl rfl (by omega) (by omega) cz4
      omega
    · -- 4 not: ¬ nI 97 ≤ nI i
      have kz4 : i < 97 := knle (a := 97) (b := i) rfl rfl (by omega) (by omega) cz4
      refine And.intro (DWo_0 hD) (Exists.intro _ (And.intro (DWr_0_9 hD) ?_))
      have ez12 : (nI p * nI 97) + nI i = nI (p * 97 + i) := by simp only [nI_add, pk_mul]
      refine And.intro (DWi_10 hD (vi ez12 (by omega))) ?_
      rw [vc ez12 (by omega)]
      refine And.intro ⟨rfl, trivial, Nat.le_refl _, Nat.le_refl _⟩ ?_
      exact hQ
theorem C15 {d : Nat} {m : Mm} {Q : Option Value → Mm → Prop} {x : Nat} (hD : DW m.2.2 x) {g i : Nat} (hg : g < 6) (hi : i < 96) (hQ : Q (some (.int (mI m (x + 11) (g * 96 + i)))) m) : Cc d 0 0 15 [.ref x, .int (nI g), .int (nI i)] m Q := by
  refine ent (n := 38) z15 (by decide) rfl (by decide) (Nat.le_of_ble_eq_true rfl) (fun sc => ?_)
  refine And.intro (DWo_0 hD) (Exists.intro _ (And.intro (DWr_0_10 hD) ?_))
  have ez7 : (nI g * nI 96) + nI i = nI (g * 96 + i) := by simp only [nI_add, pk_mul]
  refine And.intro (DWi_11 hD (vi ez7 (by omega))) ?_
  rw [vc ez7 (by omega)]
  refine And.intro ⟨rfl, trivial, Nat.le_refl _, Nat.le_refl _⟩ ?_
  exact hQ
def weF (ask : Nat → Int32) (l : Int32) (p : Nat) : Int32 := if l = nI 1 then ask (p * 7 + 5) else (if l = nI 2 then ask (p * 7 + 6) else nI 0)
theorem C3 {d : Nat} {m : Mm} {Q : Option Value → Mm → Prop} {a : Nat} (hL : LW m.2.2 a) {p : Nat} {l : Int32} (hd : 1 ≤ d) (hp : p < 8) (hQ : Q (some (.int (weF (mI m (a + 9)) l p))) m) : Cc d 0 0 3 [.ref a, .int l, .int (nI p)] m Q := by
  refine ent (n := 56) z3 (by decide) rfl (by decide) (Nat.le_of_ble_eq_true rfl) (fun sc => ?_)
  refine And.intro (fun cz2 => ?_) (fun cz2 => ?_)
  · -- 2 taken: ¬ l = nI 1
    refine And.intro (fun cz10 => ?_) (fun cz10 => ?_)
    · -- 10 taken: ¬ l = nI 2
      refine And.intro ⟨rfl, trivial, Nat.le_refl _, Nat.le_refl _⟩ ?_
      unfold weF at hQ
      rw [if_neg cz2, if_neg cz10] at hQ
      exact hQ
    · -- 10 not: l = nI 2
      refine And.intro ⟨by omega, Nat.le_of_ble_eq_true rfl, Nat.le_refl _, Nat.le_refl _⟩ (And.intro (LWo_0 hL) ?_)
      refine C27 (p := p) (w := 6) hL (by omega) (by omega) ?_
      refine And.intro ⟨rfl, trivial, Nat.le_refl _, Nat.le_refl _⟩ ?_
      unfold weF at hQ
      rw [if_neg cz2, if_pos cz10] at hQ
      exact hQ
  · -- 2 not: l = nI 1
    refine And.intro ⟨by omega, Nat.le_of_ble_eq_true rfl, Nat.le_refl _, Nat.le_refl _⟩ (And.intro (LWo_0 hL) ?_)
    refine C27 (p := p) (w := 5) hL (by omega) (by omega) ?_
    refine And.intro ⟨rfl, trivial, Nat.le_refl _, Nat.le_refl _⟩ ?_
    unfold weF at hQ
    rw [if_pos cz2] at hQ
    exact hQ
def gnF (ask off knd bar prc due bee : Nat → Int32) (p g s t : Nat) : Int32 := if bq (off ((g * 6 + t) * 5 + s)) (due p) then (if prc g ≤ ask (p * 7 + 5) then (if knd g = nI 1 then (if bee p = nI 1 <<< (nI g &&& 31) then nI 1 else nI 0) else (if knd g = nI 2 then (if (bee p) &&& (bar g) = 0 then nI 1 else nI 0) else nI 1)) else nI 0) else nI 0
theorem C12 {d : Nat} {m : Mm} {Q : Option Value → Mm → Prop} {x : Nat} (hD : DW m.2.2 x) {a : Nat} (hL : LW m.2.2 a) {b : Nat} (hB : SW m.2.2 b) {p g c t s : Nat} (hd : 1 ≤ d) (hp : p < 8) (hg : g < 6) (hc : mI m (a + 9) (p * 7 + 1) = nI c) (hc24 : c < 24) (hs : mI m (a + 2) c = nI s) (hs5 : s < 5) (ht : mI m (a + 9) (p * 7 + 0) = nI t) (ht6 : t < 6) (hQ : Q (some (.int (gnF (mI m (a + 9)) (mI m (a + 7)) (mI m (a + 3)) (mI m (a + 8)) (mI m (b + 1)) (mI m (x + 3)) (mI m (x + 9)) p g s t))) m) : Cc d 0 0 12 [.ref x, .ref a, .ref b, .int (nI p), .int (nI g)] m Q := by
  refine ent (n := 162) z12 (by decide) rfl (by decide) (Nat.le_of_ble_eq_true rfl) (fun sc => ?_)
  refine And.intro ⟨by omega, Nat.le_of_ble_eq_true rfl, Nat.le_refl _, Nat.le_refl _⟩ (And.intro (LWo_0 hL) ?_)
  refine C27 (p := p) (w := 1) hL (by omega) (by omega) ?_
  rw [hc]
  refine And.intro ⟨by omega, Nat.le_of_ble_eq_true rfl, Nat.le_refl _, Nat.le_refl _⟩ (And.intro (LWo_0 hL) ?_)
  refine C26 hL (by omega) ?_
  rw [hs]
  refine And.intro ⟨by omega, Nat.le_of_ble_eq_true rfl, Nat.le_refl _, Nat.le_refl _⟩ (And.intro (LWo_0 hL) ?_)
  refine C27 (p := p) (w := 0) hL (by omega) (by omega) ?_
  rw [ht]
  refine And.intro (DWo_0 hD) (Exists.intro _ (And.intro (DWr_0_2 hD) ?_))
  refine And.intro (DWi_3 hD (vi rfl (by omega))) ?_
  rw [nI_clamp (show p < 2 ^ 31 by omega)]
  refine And.intro ⟨by omega, Nat.le_of_ble_eq_true rfl, Nat.le_refl _, Nat.le_refl _⟩ (And.intro (LWo_0 hL) ?_)
  refine C31 (g := g) (t := t) (s := s) hL (by omega) (by omega) (by omega) ?_
  refine And.intro (fun cz21 => ?_) (fun cz21 => ?_)
  · -- 21 taken: bi (bq (mI m (a + 7) ((g * 6 + t) * 5 + s)) (mI m (x + 3) p)) = 0
    refine And.intro ⟨rfl, Or.inl rfl, Nat.le_refl _, Nat.le_refl _⟩ ?_
    unfold gnF at hQ
    rw [if_neg (bi_eq0.mp cz21)] at hQ
    exact hQ
  · -- 21 not: ¬ bi (bq (mI m (a + 7) ((g * 6 + t) * 5 + s)) (mI m (x + 3) p)) = 0
    refine And.intro ⟨by omega, Nat.le_of_ble_eq_true rfl, Nat.le_refl _, Nat.le_refl _⟩ (And.intro (LWo_0 hL) ?_)
    refine C27 (p := p) (w := 5) hL (by omega) (by omega) ?_
    refine And.intro (SWo_0 hB) (Exists.intro _ (And.intro (SWr_0_2 hB) ?_))
    refine And.intro (SWi_1 hB (vi rfl (by omega))) ?_
    rw [nI_clamp (show g < 2 ^ 31 by omega)]
    refine And.intro (fun cz30 => ?_) (fun cz30 => ?_)
    · -- 30 taken: mI m (b + 1) g ≤ mI m (a + 9) (p * 7 + 5)
      refine And.intro (LWo_0 hL) (Exists.intro _ (And.intro (LWr_0_6 hL) ?_))
      refine And.intro (LWi_3 hL (vi rfl (by omega))) ?_
      rw [nI_clamp (show g < 2 ^ 31 by omega)]
      refine And.intro (fun cz38 => ?_) (fun cz38 => ?_)
      · -- 38 taken: ¬ mI m (a + 3) g = nI 1
        refine And.intro (LWo_0 hL) (Exists.intro _ (And.intro (LWr_0_6 hL) ?_))
        refine And.intro (LWi_3 hL (vi rfl (by omega))) ?_
        rw [nI_clamp (show g < 2 ^ 31 by omega)]
        refine And.intro (fun cz56 => ?_) (fun cz56 => ?_)
        · -- 56 taken: ¬ mI m (a + 3) g = nI 2
          refine And.intro ⟨rfl, Or.inr rfl, Nat.le_refl _, Nat.le_refl _⟩ ?_
          unfold gnF at hQ
          rw [if_pos (bi_ne0.mp cz21), if_pos cz30, if_neg cz38, if_neg cz56] at hQ
          exact hQ
        · -- 56 not: mI m (a + 3) g = nI 2
          refine And.intro (DWo_0 hD) (Exists.intro _ (And.intro (DWr_0_8 hD) ?_))
          refine And.intro (DWi_9 hD (vi rfl (by omega))) ?_
          rw [nI_clamp (show p < 2 ^ 31 by omega)]
          refine And.intro (LWo_0 hL) (Exists.intro _ (And.intro (LWr_0_11 hL) ?_))
          refine And.intro (LWi_8 hL (vi rfl (by omega))) ?_
          rw [nI_clamp (show g < 2 ^ 31 by omega)]
          refine And.intro (fun cz66 => ?_) (fun cz66 => ?_)
          · -- 66 taken: ¬ (mI m (x + 9) p) &&& (mI m (a + 8) g) = 0
            refine And.intro ⟨rfl, Or.inl rfl, Nat.le_refl _, Nat.le_refl _⟩ ?_
            unfold gnF at hQ
            rw [if_pos (bi_ne0.mp cz21), if_pos cz30, if_neg cz38, if_pos cz56, if_neg cz66] at hQ
            exact hQ
          · -- 66 not: (mI m (x + 9) p) &&& (mI m (a + 8) g) = 0
            refine And.intro ⟨rfl, Or.inr rfl, Nat.le_refl _, Nat.le_refl _⟩ ?_
            unfold gnF at hQ
            rw [if_pos (bi_ne0.mp cz21), if_pos cz30, if_neg cz38, if_pos cz56, if_pos cz66] at hQ
            exact hQ
      · -- 38 not: mI m (a + 3) g = nI 1
        refine And.intro (DWo_0 hD) (Exists.intro _ (And.intro (DWr_0_8 hD) ?_))
        refine And.intro (DWi_9 hD (vi rfl (by omega))) ?_
        rw [nI_clamp (show p < 2 ^ 31 by omega)]
        refine And.intro (fun cz46 => ?_) (fun cz46 => ?_)
        · -- 46 taken: ¬ mI m (x + 9) p = nI 1 <<< (nI g &&& 31)
          refine And.intro ⟨rfl, Or.inl rfl, Nat.le_refl _, Nat.le_refl _⟩ ?_
          unfold gnF at hQ
          rw [if_pos (bi_ne0.mp cz21), if_pos cz30, if_pos cz38, if_neg cz46] at hQ
          exact hQ
        · -- 46 not: mI m (x + 9) p = nI 1 <<< (nI g &&& 31)
          refine And.intro ⟨rfl, Or.inr rfl, Nat.le_refl _, Nat.le_refl _⟩ ?_
          unfold gnF at hQ
          rw [if_pos (bi_ne0.mp cz21), if_pos cz30, if_pos cz38, if_pos cz46] at hQ
          exact hQ
    · -- 30 not: ¬ mI m (b + 1) g ≤ mI m (a + 9) (p * 7 + 5)
      refine And.intro ⟨rfl, Or.inl rfl, Nat.le_refl _, Nat.le_refl _⟩ ?_
      unfold gnF at hQ
      rw [if_pos (bi_ne0.mp cz21), if_neg cz30] at hQ
      exact hQ
theorem C11 {d : Nat} {m : Mm} {Q : Option Value → Mm → Prop} {x : Nat} (hD : DW m.2.2 x) {p : Nat} {f h : Int32} (hp : p < 8) (hQ : Q none (uI (uI (uI m (x + 1) p f) (x + 2) p h) x 11 (mI m x 11 - nI 1))) : Cc d 0 0 11 [.ref x, .int (nI p), .int f, .int h] m Q := by
  refine ent (n := 54) z11 (by decide) rfl (by decide) (Nat.le_of_ble_eq_true rfl) (fun sc => ?_)
  refine And.intro (DWo_0 hD) (Exists.intro _ (And.intro (DWr_0_0 hD) ?_))
  refine And.intro (DWi_1 hD (vi rfl (by omega))) ?_
  rw [nI_clamp (show p < 2 ^ 31 by omega)]
  refine And.intro (DWo_0 hD) (Exists.intro _ (And.intro (DWr_0_1 hD) ?_))
  refine And.intro (DWi_2 hD (vi rfl (by omega))) ?_
  rw [nI_clamp (show p < 2 ^ 31 by omega)]
  refine And.intro rfl ?_
  refine And.intro (DWo_0 hD) ?_
  rw [uI_ne (m := (uI m (x + 1) p f)) (a := (x + 2)) (b := x) (by omega)]
  rw [uI_ne (m := m) (a := (x + 1)) (b := x) (by omega)]
  refine And.intro (DWo_0 hD) ?_
  refine And.intro ⟨rfl, rfl, Nat.le_refl _, Nat.le_refl _⟩ ?_
  exact hQ
theorem C4 {d : Nat} {m : Mm} {Q : Option Value → Mm → Prop} {x : Nat} (hD : DW m.2.2 x) {p g k : Nat} {h : Int32} (hp : p < 8) (hg : g < 6) (hk : mI m (x + 8) p = nI k) (hk97 : k < 97) (hQ : Q none (uI (uI (uI (uI (uI m (x + 5) p (nI g)) (x + 6) p h) (x + 9) p (mI m (x + 9) p ||| nI 1 <<< (nI g &&& 31))) (x + 10) (p * 97 + k) (vp_nar .byte (nI g).toInt8.toInt32)) (x + 8) p (nI k + nI 1))) : Cc d 0 0 4 [.ref x, .int (nI p), .int (nI g), .int h] m Q := by
  refine ent (n := 116) z4 (by decide) rfl (by decide) (Nat.le_of_ble_eq_true rfl) (fun sc => ?_)
  refine And.intro (DWo_0 hD) (Exists.intro _ (And.intro (DWr_0_4 hD) ?_))
  refine And.intro (DWi_5 hD (vi rfl (by omega))) ?_
  rw [nI_clamp (show p < 2 ^ 31 by omega)]
  refine And.intro (DWo_0 hD) (Exists.intro _ (And.intro (DWr_0_5 hD) ?_))
  refine And.intro (DWi_6 hD (vi rfl (by omega))) ?_
  rw [nI_clamp (show p < 2 ^ 31 by omega)]
  refine And.intro (DWo_0 hD) (Exists.intro _ (And.intro (DWr_0_8 hD) ?_))
  refine And.intro ⟨rfl, rfl⟩ ?_
  refine And.intro (DWi_9 hD (vi rfl (by omega))) ?_
  rw [nI_clamp (show p < 2 ^ 31 by omega)]
  rw [uI_ne (m := (uI m (x + 5) p (nI g))) (a := (x + 6)) (b := (x + 9)) (by omega)]
  rw [uI_ne (m := m) (a := (x + 5)) (b := (x + 9)) (by omega)]
  refine And.intro (DWi_9 hD (vi rfl (by omega))) ?_
  rw [nI_clamp (show p < 2 ^ 31 by omega)]
  refine And.intro (DWo_0 hD) (Exists.intro _ (And.intro (DWr_0_7 hD) ?_))
  refine And.intro (DWi_8 hD (vi rfl (by omega))) ?_
  rw [nI_clamp (show p < 2 ^ 31 by omega)]
  rw [uI_ne (m := (uI (uI m (x + 5) p (nI g)) (x + 6) p h)) (a := (x + 9)) (b := (x + 8)) (by omega)]
  rw [uI_ne (m := (uI m (x + 5) p (nI g))) (a := (x + 6)) (b := (x + 8)) (by omega)]
  rw [uI_ne (m := m) (a := (x + 5)) (b := (x + 8)) (by omega)]
  rw [hk]
  refine And.intro (fun cz25 => ?_) (fun cz25 => ?_)
  · -- 25 taken: nI 97 ≤ nI k
    have kz25 : 97 ≤ k := kle (a := 97) (b := k) rfl rfl (by omega) (by omega) cz25
    omega
  · -- 25 not: ¬ nI 97 ≤ nI k
    have kz25 : k < 97 := knle (a := 97) (b := k) rfl rfl (by omega) (by omega) cz25
    refine And.intro (DWo_0 hD) (Exists.intro _ (And.intro (DWr_0_9 hD) ?_))
    refine And.intro (DWo_0 hD) (Exists.intro _ (And.intro (DWr_0_7 hD) ?_))
    refine And.intro (DWi_8 hD (vi rfl (by omega))) ?_
    rw [nI_clamp (show p < 2 ^ 31 by omega)]
    rw [uI_ne (m := (uI (uI m (x + 5) p (nI g)) (x + 6) p h)) (a := (x + 9)) (b := (x + 8)) (by omega)]
    rw [uI_ne (m := (uI m (x + 5) p (nI g))) (a := (x + 6)) (b := (x + 8)) (by omega)]
    rw [uI_ne (m := m) (a := (x + 5)) (b := (x + 8)) (by omega)]
    rw [hk]
    have ez38 : (nI p * nI 97) + nI k = nI (p * 97 + k) := by simp only [nI_add, pk_mul]
    refine And.intro (DWi_10 hD (vi ez38 (by omega))) ?_
    rw [vc ez38 (by omega)]
    refine And.intro (DWo_0 hD) (Exists.intro _ (And.intro (DWr_0_7 hD) ?_))
    refine And.intro ⟨rfl, rfl⟩ ?_
    refine And.intro (DWi_8 hD (vi rfl (by omega))) ?_
    rw [nI_clamp (show p < 2 ^ 31 by omega)]
    rw [uI_ne (m := (uI (uI (uI m (x + 5) p (nI g)) (x + 6) p h) (x + 9) p ((mI m (x + 9) p) ||| (nI 1 <<< (nI g &&& 31))))) (a := (x + 10)) (b := (x + 8)) (by omega)]
    rw [uI_ne (m := (uI (uI m (x + 5) p (nI g)) (x + 6) p h)) (a := (x + 9)) (b := (x + 8)) (by omega)]
    rw [uI_ne (m := (uI m (x + 5) p (nI g))) (a := (x + 6)) (b := (x + 8)) (by omega)]
    rw [uI_ne (m := m) (a := (x + 5)) (b := (x + 8)) (by omega)]
    rw [hk]
    refine And.intro (DWi_8 hD (vi rfl (by omega))) ?_
    rw [nI_clamp (show p < 2 ^ 31 by omega)]
    refine And.intro ⟨rfl, rfl, Nat.le_refl _, Nat.le_refl _⟩ ?_
    exact hQ
