/-- bit k of x -/
abbrev bq (x k : Int32) : Prop := x >>> (k &&& 31) &&& nI 1 = nI 1
theorem C22 {d : Nat} {m : Mm} {Q : Option Value → Mm → Prop} {a : Nat} (hL : LW m.2.2 a) (hQ : Q (some (.int (mI m (a + 1) 2))) m) : Cc d 0 0 22 [.ref a] m Q := by
  refine ent (n := 30) z22 (by decide) rfl (by decide) (Nat.le_of_ble_eq_true rfl) (fun sc => ?_)
  refine And.intro (LWo_0 hL) (Exists.intro _ (And.intro (LWr_0_4 hL) ?_))
  refine And.intro (LWi_1 hL (vi rfl (by omega))) ?_
  rw [nI_clamp (show 2 < 2 ^ 31 by omega)]
  refine And.intro ⟨rfl, trivial, Nat.le_refl _, Nat.le_refl _⟩ ?_
  exact hQ
theorem C23 {d : Nat} {m : Mm} {Q : Option Value → Mm → Prop} {a : Nat} (hL : LW m.2.2 a) (hQ : Q (some (.int (mI m (a + 1) 4))) m) : Cc d 0 0 23 [.ref a] m Q := by
  refine ent (n := 30) z23 (by decide) rfl (by decide) (Nat.le_of_ble_eq_true rfl) (fun sc => ?_)
  refine And.intro (LWo_0 hL) (Exists.intro _ (And.intro (LWr_0_4 hL) ?_))
  refine And.intro (LWi_1 hL (vi rfl (by omega))) ?_
  rw [nI_clamp (show 4 < 2 ^ 31 by omega)]
  refine And.intro ⟨rfl, trivial, Nat.le_refl _, Nat.le_refl _⟩ ?_
  exact hQ
theorem C24 {d : Nat} {m : Mm} {Q : Option Value → Mm → Prop} {a : Nat} (hL : LW m.2.2 a) (hQ : Q (some (.int (mI m (a + 1) 8))) m) : Cc d 0 0 24 [.ref a] m Q := by
  refine ent (n := 30) z24 (by decide) rfl (by decide) (Nat.le_of_ble_eq_true rfl) (fun sc => ?_)
  refine And.intro (LWo_0 hL) (Exists.intro _ (And.intro (LWr_0_4 hL) ?_))
  refine And.intro (LWi_1 hL (vi rfl (by omega))) ?_
  rw [nI_clamp (show 8 < 2 ^ 31 by omega)]
  refine And.intro ⟨rfl, trivial, Nat.le_refl _, Nat.le_refl _⟩ ?_
  exact hQ
theorem C25 {d : Nat} {m : Mm} {Q : Option Value → Mm → Prop} {a : Nat} (hL : LW m.2.2 a) (hQ : Q (some (.int (mI m (a + 1) 10))) m) : Cc d 0 0 25 [.ref a] m Q := by
  refine ent (n := 30) z25 (by decide) rfl (by decide) (Nat.le_of_ble_eq_true rfl) (fun sc => ?_)
  refine And.intro (LWo_0 hL) (Exists.intro _ (And.intro (LWr_0_4 hL) ?_))
  refine And.intro (LWi_1 hL (vi rfl (by omega))) ?_
  rw [nI_clamp (show 10 < 2 ^ 31 by omega)]
  refine And.intro ⟨rfl, trivial, Nat.le_refl _, Nat.le_refl _⟩ ?_
  exact hQ
theorem C21 {d : Nat} {m : Mm} {Q : Option Value → Mm → Prop} {a : Nat} (hL : LW m.2.2 a) (hQ : Q (some (.int (bi (0 < mI m (a + 1) 0)))) m) : Cc d 0 0 21 [.ref a] m Q := by
  refine ent (n := 38) z21 (by decide) rfl (by decide) (Nat.le_of_ble_eq_true rfl) (fun sc => ?_)
  refine And.intro (LWo_0 hL) (Exists.intro _ (And.intro (LWr_0_4 hL) ?_))
  refine And.intro (LWi_1 hL (vi rfl (by omega))) ?_
  rw [nI_clamp (show 0 < 2 ^ 31 by omega)]
  refine And.intro (fun cz4 => ?_) (fun cz4 => ?_)
  · -- 4 taken: mI m (a + 1) 0 ≤ 0
    refine And.intro ⟨rfl, Or.inl rfl, Nat.le_refl _, Nat.le_refl _⟩ ?_
    rw [bi_f (Int32.not_lt.mpr cz4)] at hQ; exact hQ
  · -- 4 not: ¬ mI m (a + 1) 0 ≤ 0
    refine And.intro ⟨rfl, Or.inr rfl, Nat.le_refl _, Nat.le_refl _⟩ ?_
    rw [bi_t (Int32.not_le.mp cz4)] at hQ; exact hQ
theorem C26 {d : Nat} {m : Mm} {Q : Option Value → Mm → Prop} {a c : Nat} (hL : LW m.2.2 a) (hc : c < 24) (hQ : Q (some (.int (mI m (a + 2) c))) m) : Cc d 0 0 26 [.ref a, .int (nI c)] m Q := by
  refine ent (n := 44) z26 (by decide) rfl (by decide) (Nat.le_of_ble_eq_true rfl) (fun sc => ?_)
  refine And.intro (fun cz1 => False.elim (nI_pos (show c < 2 ^ 31 by omega) cz1)) (fun cz1 => ?_)
  refine And.intro (fun cz4 => False.elim (nI_ge (show c < 24 by omega) (by decide) cz4)) (fun cz4 => ?_)
  refine And.intro (LWo_0 hL) (Exists.intro _ (And.intro (LWr_0_5 hL) ?_))
  refine And.intro (LWi_2 hL (vi rfl (by omega))) ?_
  rw [nI_clamp (show c < 2 ^ 31 by omega)]
  refine And.intro ⟨rfl, trivial, Nat.le_refl _, Nat.le_refl _⟩ ?_
  exact hQ
theorem C27 {d : Nat} {m : Mm} {Q : Option Value → Mm → Prop} {a p w : Nat} (hL : LW m.2.2 a) (hp : p < 8) (hw : w < 7) (hQ : Q (some (.int (mI m (a + 9) (p * 7 + w)))) m) : Cc d 0 0 27 [.ref a, .int (nI p), .int (nI w)] m Q := by
  refine ent (n := 38) z27 (by decide) rfl (by decide) (Nat.le_of_ble_eq_true rfl) (fun sc => ?_)
  refine And.intro (LWo_0 hL) (Exists.intro _ (And.intro (LWr_0_12 hL) ?_))
  have ez7 : (nI p * nI 7) + nI w = nI (p * 7 + w) := by simp only [nI_add, pk_mul]
  refine And.intro (LWi_9 hL (vi ez7 (by omega))) ?_
  rw [vc ez7 (by omega)]
  refine And.intro ⟨rfl, trivial, Nat.le_refl _, Nat.le_refl _⟩ ?_
  exact hQ
theorem C29 {d : Nat} {m : Mm} {Q : Option Value → Mm → Prop} {a g t s : Nat} (hL : LW m.2.2 a) (hg : g < 6) (ht : t < 6) (hs : s < 5) (hQ : Q (some (.int (mI m (a + 7) ((g * 6 + t) * 5 + s)))) m) : Cc d 0 0 29 [.ref a, .int (nI g), .int (nI t), .int (nI s)] m Q := by
  refine ent (n := 46) z29 (by decide) rfl (by decide) (Nat.le_of_ble_eq_true rfl) (fun sc => ?_)
  refine And.intro (LWo_0 hL) (Exists.intro _ (And.intro (LWr_0_10 hL) ?_))
  have ez11 : (((nI g * nI 6) + nI t) * nI 5) + nI s = nI ((g * 6 + t) * 5 + s) := by simp only [nI_add, pk_mul]
  refine And.intro (LWi_7 hL (vi ez11 (by omega))) ?_
  rw [vc ez11 (by omega)]
  refine And.intro ⟨rfl, trivial, Nat.le_refl _, Nat.le_refl _⟩ ?_
  exact hQ
theorem C30 {d : Nat} {m : Mm} {Q : Option Value → Mm → Prop} {a g t s : Nat} {x : Int32} (hL : LW m.2.2 a) (hg : g < 6) (ht : t < 6) (hs : s < 5) (hQ : Q none (uI m (a + 7) ((g * 6 + t) * 5 + s) (mI m (a + 7) ((g * 6 + t) * 5 + s) ||| x))) : Cc d 0 0 30 [.ref a, .int (nI g), .int (nI t), .int (nI s), .int x] m Q := by
  refine ent (n := 54) z30 (by decide) rfl (by decide) (Nat.le_of_ble_eq_true rfl) (fun sc => ?_)
  refine And.intro (LWo_0 hL) (Exists.intro _ (And.intro (LWr_0_10 hL) ?_))
  refine And.intro ⟨rfl, rfl⟩ ?_
  have ez12 : (((nI g * nI 6) + nI t) * nI 5) + nI s = nI ((g * 6 + t) * 5 + s) := by simp only [nI_add, pk_mul]
  refine And.intro (LWi_7 hL (vi ez12 (by omega))) ?_
  rw [vc ez12 (by omega)]
  have ez15 : (((nI g * nI 6) + nI t) * nI 5) + nI s = nI ((g * 6 + t) * 5 + s) := by simp only [nI_add, pk_mul]
  refine And.intro (LWi_7 hL (vi ez15 (by omega))) ?_
  rw [vc ez15 (by omega)]
  refine And.intro ⟨rfl, rfl, Nat.le_refl _, Nat.le_refl _⟩ ?_
  exact hQ
theorem C31 {d : Nat} {m : Mm} {Q : Option Value → Mm → Prop} {a g t s : Nat} {h : Int32} (hL : LW m.2.2 a) (hg : g < 6) (ht : t < 6) (hs : s < 5) (hQ : Q (some (.int (bi (bq (mI m (a + 7) ((g * 6 + t) * 5 + s)) h)))) m) : Cc d 0 0 31 [.ref a, .int (nI g), .int (nI t), .int (nI s), .int h] m Q := by
  refine ent (n := 64) z31 (by decide) rfl (by decide) (Nat.le_of_ble_eq_true rfl) (fun sc => ?_)
  refine And.intro (LWo_0 hL) (Exists.intro _ (And.intro (LWr_0_10 hL) ?_))
  have ez11 : (((nI g * nI 6) + nI t) * nI 5) + nI s = nI ((g * 6 + t) * 5 + s) := by simp only [nI_add, pk_mul]
  refine And.intro (LWi_7 hL (vi ez11 (by omega))) ?_
  rw [vc ez11 (by omega)]
  refine And.intro (fun cz17 => ?_) (fun cz17 => ?_)
  · -- 17 taken: ¬ ((mI m (a + 7) ((g * 6 + t) * 5 + s)) >>> (h &&& 31)) &&& nI 1 = nI 1
    refine And.intro ⟨rfl, Or.inl rfl, Nat.le_refl _, Nat.le_refl _⟩ ?_
    rw [bi_f cz17] at hQ; exact hQ
  · -- 17 not: ((mI m (a + 7) ((g * 6 + t) * 5 + s)) >>> (h &&& 31)) &&& nI 1 = nI 1
    refine And.intro ⟨rfl, Or.inr rfl, Nat.le_refl _, Nat.le_refl _⟩ ?_
    rw [bi_t cz17] at hQ; exact hQ
theorem C33 {d : Nat} {m : Mm} {Q : Option Value → Mm → Prop} {a g : Nat} {x : Int32} (hL : LW m.2.2 a) (hg : g < 6) (hQ : Q (some (.int (bi (bq (mI m (a + 8) g) x)))) m) : Cc d 0 0 33 [.ref a, .int (nI g), .int x] m Q := by
  refine ent (n := 48) z33 (by decide) rfl (by decide) (Nat.le_of_ble_eq_true rfl) (fun sc => ?_)
  refine And.intro (LWo_0 hL) (Exists.intro _ (And.intro (LWr_0_11 hL) ?_))
  refine And.intro (LWi_8 hL (vi rfl (by omega))) ?_
  rw [nI_clamp (show g < 2 ^ 31 by omega)]
  refine And.intro (fun cz9 => ?_) (fun cz9 => ?_)
  · -- 9 taken: ¬ ((mI m (a + 8) g) >>> (x &&& 31)) &&& nI 1 = nI 1
    refine And.intro ⟨rfl, Or.inl rfl, Nat.le_refl _, Nat.le_refl _⟩ ?_
    rw [bi_f cz9] at hQ; exact hQ
  · -- 9 not: ((mI m (a + 8) g) >>> (x &&& 31)) &&& nI 1 = nI 1
    refine And.intro ⟨rfl, Or.inr rfl, Nat.le_refl _, Nat.le_refl _⟩ ?_
    rw [bi_t cz9] at hQ; exact hQ
theorem C100 {d : Nat} {m : Mm} {Q : Option Value → Mm → Prop} {b : Nat} {x : Int32} (hB : SW m.2.2 b) (hQ : Q (some (.int (bi (bq (mI m b 1) x)))) m) : Cc d 0 0 100 [.ref b, .int x] m Q := by
  refine ent (n := 44) z100 (by decide) rfl (by decide) (Nat.le_of_ble_eq_true rfl) (fun sc => ?_)
  refine And.intro (SWo_0 hB) ?_
  refine And.intro (fun cz7 => ?_) (fun cz7 => ?_)
  · -- 7 taken: ¬ ((mI m b 1) >>> (x &&& 31)) &&& nI 1 = nI 1
    refine And.intro ⟨rfl, Or.inl rfl, Nat.le_refl _, Nat.le_refl _⟩ ?_
    rw [bi_f cz7] at hQ; exact hQ
  · -- 7 not: ((mI m b 1) >>> (x &&& 31)) &&& nI 1 = nI 1
    refine And.intro ⟨rfl, Or.inr rfl, Nat.le_refl _, Nat.le_refl _⟩ ?_
    rw [bi_t cz7] at hQ; exact hQ
theorem C101 {d : Nat} {m : Mm} {Q : Option Value → Mm → Prop} {b : Nat} {x : Int32} (hB : SW m.2.2 b) (hQ : Q none (uI m b 1 (mI m b 1 ^^^ nI 1 <<< (x &&& 31)))) : Cc d 0 0 101 [.ref b, .int x] m Q := by
  refine ent (n := 38) z101 (by decide) rfl (by decide) (Nat.le_of_ble_eq_true rfl) (fun sc => ?_)
  refine And.intro rfl ?_
  refine And.intro (SWo_0 hB) ?_
  refine And.intro (SWo_0 hB) ?_
  refine And.intro ⟨rfl, rfl, Nat.le_refl _, Nat.le_refl _⟩ ?_
  exact hQ
theorem C103 {d : Nat} {m : Mm} {Q : Option Value → Mm → Prop} {b g t : Nat} (hB : SW m.2.2 b) (hg : g < 6) (ht : t < 6) (hQ : Q (some (.int (mI m (b + 2) (g * 6 + t)))) m) : Cc d 0 0 103 [.ref b, .int (nI g), .int (nI t)] m Q := by
  refine ent (n := 38) z103 (by decide) rfl (by decide) (Nat.le_of_ble_eq_true rfl) (fun sc => ?_)
  refine And.intro (SWo_0 hB) (Exists.intro _ (And.intro (SWr_0_3 hB) ?_))
  have ez7 : (nI g * nI 6) + nI t = nI (g * 6 + t) := by simp only [nI_add, pk_mul]
  refine And.intro (SWi_2 hB (vi ez7 (by omega))) ?_
  rw [vc ez7 (by omega)]
  refine And.intro ⟨rfl, trivial, Nat.le_refl _, Nat.le_refl _⟩ ?_
  exact hQ
theorem C104 {d : Nat} {m : Mm} {Q : Option Value → Mm → Prop} {b g t : Nat} {x : Int32} (hB : SW m.2.2 b) (hg : g < 6) (ht : t < 6) (hQ : Q none (uI m (b + 2) (g * 6 + t) x)) : Cc d 0 0 104 [.ref b, .int (nI g), .int (nI t), .int x] m Q := by
  refine ent (n := 40) z104 (by decide) rfl (by decide) (Nat.le_of_ble_eq_true rfl) (fun sc => ?_)
  refine And.intro (SWo_0 hB) (Exists.intro _ (And.intro (SWr_0_3 hB) ?_))
  have ez8 : (nI g * nI 6) + nI t = nI (g * 6 + t) := by simp only [nI_add, pk_mul]
  refine And.intro (SWi_2 hB (vi ez8 (by omega))) ?_
  rw [vc ez8 (by omega)]
  refine And.intro ⟨rfl, rfl, Nat.le_refl _, Nat.le_refl _⟩ ?_
  exact hQ
theorem C34 {d : Nat} {m : Mm} {Q : Option Value → Mm → Prop} {a b g : Nat} (hd : 1 ≤ d) (hL : LW m.2.2 a) (hB : SW m.2.2 b) (hg : g < 6) (hQ : Q (some (.int (bi (mI m (a + 3) g = nI 3 ∨ bq (mI m b 1) (nI g))))) m) : Cc d 0 0 34 [.ref a, .int (nI g), .ref b] m Q := by
  refine ent (n := 48) z34 (by decide) rfl (by decide) (Nat.le_of_ble_eq_true rfl) (fun sc => ?_)
  refine And.intro (LWo_0 hL) (Exists.intro _ (And.intro (LWr_0_6 hL) ?_))
  refine And.intro (LWi_3 hL (vi rfl (by omega))) ?_
  rw [nI_clamp (show g < 2 ^ 31 by omega)]
  refine And.intro (fun cz5 => ?_) (fun cz5 => ?_)
  · -- 5 taken: mI m (a + 3) g = nI 3
    refine And.intro ⟨rfl, Or.inr rfl, Nat.le_refl _, Nat.le_refl _⟩ ?_
    rw [bi_t (Or.inl cz5)] at hQ; exact hQ
  · -- 5 not: ¬ mI m (a + 3) g = nI 3
    refine And.intro ⟨by omega, Nat.le_of_ble_eq_true rfl, Nat.le_refl _, Nat.le_refl _⟩ (And.intro (SWo_0 hB) ?_)
    refine C100 hB ?_
    refine And.intro (fun cz9 => ?_) (fun cz9 => ?_)
    · -- 9 taken: bi (bq (mI m b 1) (nI g)) = 0
      refine And.intro ⟨rfl, Or.inl rfl, Nat.le_refl _, Nat.le_refl _⟩ ?_
      rw [bi_f (fun z => z.elim cz5 (bi_eq0.mp cz9))] at hQ; exact hQ
    · -- 9 not: ¬ bi (bq (mI m b 1) (nI g)) = 0
      refine And.intro ⟨rfl, Or.inr rfl, Nat.le_refl _, Nat.le_refl _⟩ ?_
      rw [bi_t (Or.inr (bi_ne0.mp cz9))] at hQ; exact hQ
theorem C35 {d : Nat} {m : Mm} {Q : Option Value → Mm → Prop} {a b g : Nat} {h : Int32} (hd : 2 ≤ d) (hL : LW m.2.2 a) (hB : SW m.2.2 b) (hg : g < 6) (hQ : Q (some (.int (bi (¬ (mI m (a + 3) g = nI 3 ∨ bq (mI m b 1) (nI g)) ∧ mI m (a + 5) g ≤ h ∧ h < mI m (a + 6) g)))) m) : Cc d 0 0 35 [.ref a, .int (nI g), .int h, .ref b] m Q := by
  refine ent (n := 62) z35 (by decide) rfl (by decide) (Nat.le_of_ble_eq_true rfl) (fun sc => ?_)
  refine And.intro ⟨by omega, Nat.le_of_ble_eq_true rfl, Nat.le_refl _, Nat.le_refl _⟩ (And.intro (LWo_0 hL) ?_)
  refine C34 (g := g) (by omega) hL hB (by omega) ?_
  refine And.intro (fun cz4 => ?_) (fun cz4 => ?_)
  · -- 4 taken: ¬ bi (mI m (a + 3) g = nI 3 ∨ bq (mI m b 1) (nI g)) = 0
    refine And.intro ⟨rfl, Or.inl rfl, Nat.le_refl _, Nat.le_refl _⟩ ?_
    rw [bi_f (fun z => z.1 (bi_ne0.mp cz4))] at hQ; exact hQ
  · -- 4 not: bi (mI m (a + 3) g = nI 3 ∨ bq (mI m b 1) (nI g)) = 0
    refine And.intro (LWo_0 hL) (Exists.intro _ (And.intro (LWr_0_8 hL) ?_))
    refine And.intro (LWi_5 hL (vi rfl (by omega))) ?_
    rw [nI_clamp (show g < 2 ^ 31 by omega)]
    refine And.intro (fun cz10 => ?_) (fun cz10 => ?_)
    · -- 10 taken: h < mI m (a + 5) g
      refine And.intro ⟨rfl, Or.inl rfl, Nat.le_refl _, Nat.le_refl _⟩ ?_
      rw [bi_f (fun z => (Int32.not_lt.mpr z.2.1) cz10)] at hQ; exact hQ
    · -- 10 not: ¬ h < mI m (a + 5) g
      refine And.intro (LWo_0 hL) (Exists.intro _ (And.intro (LWr_0_9 hL) ?_))
      refine And.intro (LWi_6 hL (vi rfl (by omega))) ?_
      rw [nI_clamp (show g < 2 ^ 31 by omega)]
      refine And.intro (fun cz16 => ?_) (fun cz16 => ?_)
      · -- 16 taken: mI m (a + 6) g ≤ h
        refine And.intro ⟨rfl, Or.inl rfl, Nat.le_refl _, Nat.le_refl _⟩ ?_
        rw [bi_f (fun z => (Int32.not_le.mpr z.2.2) cz16)] at hQ; exact hQ
      · -- 16 not: ¬ mI m (a + 6) g ≤ h
        refine And.intro ⟨rfl, Or.inr rfl, Nat.le_refl _, Nat.le_refl _⟩ ?_
        rw [bi_t ⟨bi_eq0.mp cz4, Int32.not_lt.mp cz10, Int32.not_le.mp cz16⟩] at hQ; exact hQ
def onF (snd bar : Nat → Int32) (g t : Nat) : Int32 := if snd (g * 6 + t) = -nI 2 then -nI 2 else (if bq (bar g) (snd (g * 6 + t)) then -nI 2 else snd (g * 6 + t))
theorem C36 {d : Nat} {m : Mm} {Q : Option Value → Mm → Prop} {a b g t : Nat} (hd : 1 ≤ d) (hL : LW m.2.2 a) (hB : SW m.2.2 b) (hg : g < 6) (ht : t < 6) (hQ : Q (some (.int (onF (mI m (b + 2)) (mI m (a + 8)) g t))) m) : Cc d 0 0 36 [.ref a, .int (nI g), .int (nI t), .ref b] m Q := by
  refine ent (n := 54) z36 (by decide) rfl (by decide) (Nat.le_of_ble_eq_true rfl) (fun sc => ?_)
  refine And.intro ⟨by omega, Nat.le_of_ble_eq_true rfl, Nat.le_refl _, Nat.le_refl _⟩ (And.intro (SWo_0 hB) ?_)
  refine C103 (g := g) (t := t) hB (by omega) (by omega) ?_
  refine And.intro (fun cz7 => ?_) (fun cz7 => ?_)
  · -- 7 taken: mI m (b + 2) (g * 6 + t) = -nI 2
    refine And.intro ⟨rfl, trivial, Nat.le_refl _, Nat.le_refl _⟩ ?_
    unfold onF at hQ
    rw [if_pos cz7] at hQ
    exact hQ
  · -- 7 not: ¬ mI m (b + 2) (g * 6 + t) = -nI 2
    refine And.intro ⟨by omega, Nat.le_of_ble_eq_true rfl, Nat.le_refl _, Nat.le_refl _⟩ (And.intro (LWo_0 hL) ?_)
    refine C33 (g := g) hL (by omega) ?_
    refine And.intro (fun cz12 => ?_) (fun cz12 => ?_)
    · -- 12 taken: bi (bq (mI m (a + 8) g) (mI m (b + 2) (g * 6 + t))) = 0
      refine And.intro ⟨rfl, trivial, Nat.le_refl _, Nat.le_refl _⟩ ?_
      unfold onF at hQ
      rw [if_neg cz7, if_neg (bi_eq0.mp cz12)] at hQ
      exact hQ
    · -- 12 not: ¬ bi (bq (mI m (a + 8) g) (mI m (b + 2) (g * 6 + t))) = 0
      refine And.intro ⟨rfl, trivial, Nat.le_refl _, Nat.le_refl _⟩ ?_
      unfold onF at hQ
      rw [if_neg cz7, if_pos (bi_ne0.mp cz12)] at hQ
      exact hQ
/-- the soils of n cells, as bits -/
def grF (cel : Nat → Int32) (n : Nat) : Int32 := fo (fun c acc => acc ||| nI 1 <<< (cel c &&& 31)) (nI 0) n
theorem lp28 {sc : Nat × (Nat → Int32)} {d : Nat} {m : Mm} {Q : Option Value → Mm → Prop} {a w h : Nat} (hL : LW m.2.2 a) (hw : mI m a 0 = nI w) (hh : mI m a 1 = nI h) (hwh : w * h ≤ 24) (hQ : Q (some (.int (grF (mI m (a + 2)) (w * h)))) m) : ∀ (j i : Nat), i ≤ w * h → w * h + 1 ≤ i + j → Jj sc d 0 0 (mth 28) (pg P28 4).1 [some (.ref a), some (.int (grF (mI m (a + 2)) i)), some (.int (nI i))] [] m 0 0 Q := by
  intro j
  induction j with
  | zero => intro i h1 h2; omega
  | succ j ih =>
    intro i h1 h2
    refine J_w z28 (i := 4) (by decide) 74 ?_
    refine And.intro (LWo_0 hL) ?_
    rw [hw]
    refine And.intro (LWo_0 hL) ?_
    rw [hh]
    refine And.intro (fun cz10 => ?_) (fun cz10 => ?_)
    · -- 10 taken: nI w * nI h ≤ nI i
      have kz10 : w * h ≤ i := kle (a := w * h) (b := i) (by simp only [nI_add, pk_mul]) rfl (by omega) (by omega) cz10
      refine And.intro ⟨rfl, trivial, Nat.le_refl _, Nat.le_refl _⟩ ?_
      have e : i = w * h := by omega
      rw [e]
      exact hQ
    · -- 10 not: ¬ nI w * nI h ≤ nI i
      have kz10 : i < w * h := knle (a := w * h) (b := i) (by simp only [nI_add, pk_mul]) rfl (by omega) (by omega) cz10
      refine And.intro (fun cz13 => ?_) (fun cz13 => ?_)
      · -- 13 taken: nI 24 ≤ nI i
        have kz13 : 24 ≤ i := kle (a := 24) (b := i) rfl rfl (by omega) (by omega) cz13
        omega
      · -- 13 not: ¬ nI 24 ≤ nI i
        have kz13 : i < 24 := knle (a := 24) (b := i) rfl rfl (by omega) (by omega) cz13
        refine And.intro (LWo_0 hL) (Exists.intro _ (And.intro (LWr_0_5 hL) ?_))
        refine And.intro (LWi_2 hL (vi rfl (by omega))) ?_
        rw [nI_clamp (show i < 2 ^ 31 by omega)]
        show Jj sc d 0 0 (mth 28) (pg P28 4).1 [some (.ref a), some (.int ((grF (mI m (a + 2)) i) ||| (nI 1 <<< ((mI m (a + 2) i) &&& 31)))), some (.int (nI i + nI 1))] [] m 0 0 Q
        rw [show nI i + nI 1 = nI (i + 1) from by simp only [nI_add, pk_mul]]
        exact ih (i + 1) (by omega) (by omega)
theorem C28 {d : Nat} {m : Mm} {Q : Option Value → Mm → Prop} {a w h : Nat} (hL : LW m.2.2 a) (hw : mI m a 0 = nI w) (hh : mI m a 1 = nI h) (hwh : w * h ≤ 24) (hQ : Q (some (.int (grF (mI m (a + 2)) (w * h)))) m) : Cc d 0 0 28 [.ref a] m Q := by
  refine ent (n := 74) z28 (by decide) rfl (by decide) (Nat.le_of_ble_eq_true rfl) (fun sc => ?_)
  show Jj sc d 0 0 (mth 28) (pg P28 4).1 [some (.ref a), some (.int (nI 0)), some (.int (nI 0))] [] m 0 0 Q
  exact lp28 hL hw hh hwh hQ (w * h + 1) 0 (Nat.zero_le _) (by omega)
/-- who of n gods has thing t on soil s in hour h, as bits -/
def hoF (off : Nat → Int32) (t s : Nat) (h : Int32) (n : Nat) : Int32 := fo (fun g acc => if bq (off ((g * 6 + t) * 5 + s)) h then acc ||| nI 1 <<< (nI g &&& 31) else acc) (nI 0) n
theorem lp32 {sc : Nat × (Nat → Int32)} {d : Nat} {m : Mm} {Q : Option Value → Mm → Prop} {a t s n : Nat} {h : Int32} (hd : 1 ≤ d) (hL : LW m.2.2 a) (ht : t < 6) (hs : s < 5) (hn : mI m (a + 1) 4 = nI n) (hn6 : n ≤ 6) (hQ : Q (some (.int (hoF (mI m (a + 7)) t s h n))) m) : ∀ (j g : Nat), g ≤ n → n + 1 ≤ g + j → Jj sc d 0 0 (mth 32) (pg P32 4).1 [some (.ref a), some (.int (nI t)), some (.int (nI s)), some (.int h), some (.int (hoF (mI m (a + 7)) t s h g)), some (.int (nI g))] [] m 0 0 Q := by
  intro j
  induction j with
  | zero => intro g h1 h2; omega
  | succ j ih =>
    intro g h1 h2
    refine J_w z32 (i := 4) (by decide) 70 ?_
    refine And.intro ⟨by omega, Nat.le_of_ble_eq_true rfl, Nat.le_refl _, Nat.le_refl _⟩ (And.intro (LWo_0 hL) ?_)
    refine C23 hL ?_
    rw [hn]
    refine And.intro (fun cz7 => ?_) (fun cz7 => ?_)
    · -- 7 taken: nI n ≤ nI g
      have kz7 : n ≤ g := kle (a := n) (b := g) rfl rfl (by omega) (by omega) cz7
      refine And.intro ⟨rfl, trivial, Nat.le_refl _, Nat.le_refl _⟩ ?_
      have e : g = n := by omega
      rw [e]
      exact hQ
    · -- 7 not: ¬ nI n ≤ nI g
      have kz7 : g < n := knle (a := n) (b := g) rfl rfl (by omega) (by omega) cz7
      refine And.intro ⟨by omega, Nat.le_of_ble_eq_true rfl, Nat.le_refl _, Nat.le_refl _⟩ (And.intro (LWo_0 hL) ?_)
      refine C31 (g := g) (t := t) (s := s) hL (by omega) (by omega) (by omega) ?_
      refine And.intro (fun cz14 => ?_) (fun cz14 => ?_)
      · -- 14 taken: bi (bq (mI m (a + 7) ((g * 6 + t) * 5 + s)) h) = 0
        have c := bi_eq0.mp cz14
        show Jj sc d 0 0 (mth 32) (pg P32 4).1 [some (.ref a), some (.int (nI t)), some (.int (nI s)), some (.int h), some (.int (hoF (mI m (a + 7)) t s h g)), some (.int (nI g + nI 1))] [] m 0 0 Q
        rw [show nI g + nI 1 = nI (g + 1) from by simp only [nI_add, pk_mul]]
        have z := ih (g + 1) (by omega) (by omega)
        unfold hoF at z ⊢
        rw [fo_s, if_neg c] at z
        exact z
      · -- 14 not: ¬ bi (bq (mI m (a + 7) ((g * 6 + t) * 5 + s)) h) = 0
        have c := bi_ne0.mp cz14
        show Jj sc d 0 0 (mth 32) (pg P32 4).1 [some (.ref a), some (.int (nI t)), some (.int (nI s)), some (.int h), some (.int ((hoF (mI m (a + 7)) t s h g) ||| (nI 1 <<< (nI g &&& 31)))), some (.int (nI g + nI 1))] [] m 0 0 Q
        rw [show nI g + nI 1 = nI (g + 1) from by simp only [nI_add, pk_mul]]
        have z := ih (g + 1) (by omega) (by omega)
        unfold hoF at z ⊢
        rw [fo_s, if_pos c] at z
        exact z
theorem C32 {d : Nat} {m : Mm} {Q : Option Value → Mm → Prop} {a t s n : Nat} {h : Int32} (hd : 1 ≤ d) (hL : LW m.2.2 a) (ht : t < 6) (hs : s < 5) (hn : mI m (a + 1) 4 = nI n) (hn6 : n ≤ 6) (hQ : Q (some (.int (hoF (mI m (a + 7)) t s h n))) m) : Cc d 0 0 32 [.ref a, .int (nI t), .int (nI s), .int h] m Q := by
  refine ent (n := 70) z32 (by decide) rfl (by decide) (Nat.le_of_ble_eq_true rfl) (fun sc => ?_)
  show Jj sc d 0 0 (mth 32) (pg P32 4).1 [some (.ref a), some (.int (nI t)), some (.int (nI s)), some (.int h), some (.int (nI 0)), some (.int (nI 0))] [] m 0 0 Q
  exact lp32 hd hL ht hs hn hn6 hQ (n + 1) 0 (Nat.zero_le _) (by omega)
