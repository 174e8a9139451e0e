theorem irq {x : Int32} {n : Nat} (hn : n < 2 ^ 31) : iR x n ↔ (¬ x < 0 ∧ ¬ nI n ≤ x) := by
  refine ⟨fun h => ?_, fun h => ?_⟩
  · obtain ⟨w, hw, rfl⟩ := h
    exact ⟨nI_pos (by omega), Int32.not_le.mpr (nI_lt hw hn)⟩
  · rcases Nat.eq_zero_or_pos n with z | z
    · rw [z] at h
      exact absurd (Int32.not_lt.mp h.1) h.2
    · obtain ⟨⟨w, hw, e⟩, -⟩ := iR_of (x := x) (a := 0) (b := n) (by decide) hn (Int32.not_lt.mp h.1) (Int32.le_of_lt (Int32.not_le.mp h.2))
      refine ⟨w, ?_, e⟩
      have h2 := Int32.not_le.mp h.2
      rw [e, nI_ltI (by omega) hn] at h2
      exact h2
/-- the reference's land has n of a sort (field f), or there is none, and n is 0 -/
def LN (m : Mm) (f n : Nat) : Prop := (mR m 142 3 = none ∧ n = 0) ∨ ∃ q, 158 ≤ q ∧ mR m 142 3 = some q ∧ NW m.2.2 q ∧ mI m q f = nI n
theorem LN_u {m : Mm} {f n r i : Nat} {x : Int32} (h : LN m f n) (hr : r < 158) : LN (uI m r i x) f n := by
  rcases h with h | ⟨q, h1, h2, h3, h4⟩
  · exact Or.inl h
  · exact Or.inr ⟨q, h1, h2, h3, (congrFun (uI_ne (by omega)) f).trans h4⟩
theorem C181 {d : Nat} {m : Mm} {Q : Option Value → Mm → Prop} {a n : Nat} {x : Int32} (hd : 1 ≤ d) (hW : Wd m.2.2) (ha : va_rf (mR m 0 3) = .ref a) (hL : LW m.2.2 a) (hn : mI m (a + 1) 4 = nI n) (hn9 : n ≤ 100) (hQ : Q (some (.int (bi (iR x n)))) m) : Cc d 0 0 181 [.ref 0, .int x] m Q := by
  refine ent (n := 42) z181 (by decide) rfl (by decide) (Nat.le_of_ble_eq_true rfl) (fun sc => ?_)
  refine And.intro (fun cz1 => ?_) (fun cz1 => ?_)
  · -- 1 taken: x < 0
    refine And.intro ⟨rfl, Or.inl rfl, Nat.le_refl _, Nat.le_refl _⟩ ?_
    rw [bi_f (fun z => ((irq (by omega)).mp z).1 cz1)] at hQ
    exact hQ
  · -- 1 not: ¬ x < 0
    refine And.intro (Wdo_0 hW) (Exists.intro _ (And.intro ha ?_))
    refine And.intro ⟨by omega, Nat.le_of_ble_eq_true rfl, Nat.le_refl _, Nat.le_refl _⟩ (And.intro (LWo_0 hL) ?_)
    refine C23 hL ?_
    rw [hn]
    refine And.intro (fun cz6 => ?_) (fun cz6 => ?_)
    · -- 6 taken: nI n ≤ x
      refine And.intro ⟨rfl, Or.inl rfl, Nat.le_refl _, Nat.le_refl _⟩ ?_
      rw [bi_f (fun z => ((irq (by omega)).mp z).2 cz6)] at hQ
      exact hQ
    · -- 6 not: ¬ nI n ≤ x
      refine And.intro ⟨rfl, Or.inr rfl, Nat.le_refl _, Nat.le_refl _⟩ ?_
      rw [bi_t ((irq (by omega)).mpr ⟨cz1, cz6⟩)] at hQ
      exact hQ
theorem C182 {d : Nat} {m : Mm} {Q : Option Value → Mm → Prop} {a n : Nat} {x : Int32} (hd : 1 ≤ d) (hW : Wd m.2.2) (ha : va_rf (mR m 0 3) = .ref a) (hL : LW m.2.2 a) (hn : mI m (a + 1) 2 = nI n) (hn9 : n ≤ 100) (hQ : Q (some (.int (bi (iR x n)))) m) : Cc d 0 0 182 [.ref 0, .int x] m Q := by
  refine ent (n := 42) z182 (by decide) rfl (by decide) (Nat.le_of_ble_eq_true rfl) (fun sc => ?_)
  refine And.intro (fun cz1 => ?_) (fun cz1 => ?_)
  · -- 1 taken: x < 0
    refine And.intro ⟨rfl, Or.inl rfl, Nat.le_refl _, Nat.le_refl _⟩ ?_
    rw [bi_f (fun z => ((irq (by omega)).mp z).1 cz1)] at hQ
    exact hQ
  · -- 1 not: ¬ x < 0
    refine And.intro (Wdo_0 hW) (Exists.intro _ (And.intro ha ?_))
    refine And.intro ⟨by omega, Nat.le_of_ble_eq_true rfl, Nat.le_refl _, Nat.le_refl _⟩ (And.intro (LWo_0 hL) ?_)
    refine C22 hL ?_
    rw [hn]
    refine And.intro (fun cz6 => ?_) (fun cz6 => ?_)
    · -- 6 taken: nI n ≤ x
      refine And.intro ⟨rfl, Or.inl rfl, Nat.le_refl _, Nat.le_refl _⟩ ?_
      rw [bi_f (fun z => ((irq (by omega)).mp z).2 cz6)] at hQ
      exact hQ
    · -- 6 not: ¬ nI n ≤ x
      refine And.intro ⟨rfl, Or.inr rfl, Nat.le_refl _, Nat.le_refl _⟩ ?_
      rw [bi_t ((irq (by omega)).mpr ⟨cz1, cz6⟩)] at hQ
      exact hQ
theorem C185 {d : Nat} {m : Mm} {Q : Option Value → Mm → Prop} {a n : Nat} {x : Int32} (hd : 1 ≤ d) (hW : Wd m.2.2) (ha : va_rf (mR m 0 3) = .ref a) (hL : LW m.2.2 a) (hn : mI m (a + 1) 8 = nI n) (hn9 : n ≤ 100) (hQ : Q (some (.int (bi (iR x n)))) m) : Cc d 0 0 185 [.ref 0, .int x] m Q := by
  refine ent (n := 42) z185 (by decide) rfl (by decide) (Nat.le_of_ble_eq_true rfl) (fun sc => ?_)
  refine And.intro (fun cz1 => ?_) (fun cz1 => ?_)
  · -- 1 taken: x < 0
    refine And.intro ⟨rfl, Or.inl rfl, Nat.le_refl _, Nat.le_refl _⟩ ?_
    rw [bi_f (fun z => ((irq (by omega)).mp z).1 cz1)] at hQ
    exact hQ
  · -- 1 not: ¬ x < 0
    refine And.intro (Wdo_0 hW) (Exists.intro _ (And.intro ha ?_))
    refine And.intro ⟨by omega, Nat.le_of_ble_eq_true rfl, Nat.le_refl _, Nat.le_refl _⟩ (And.intro (LWo_0 hL) ?_)
    refine C24 hL ?_
    rw [hn]
    refine And.intro (fun cz6 => ?_) (fun cz6 => ?_)
    · -- 6 taken: nI n ≤ x
      refine And.intro ⟨rfl, Or.inl rfl, Nat.le_refl _, Nat.le_refl _⟩ ?_
      rw [bi_f (fun z => ((irq (by omega)).mp z).2 cz6)] at hQ
      exact hQ
    · -- 6 not: ¬ nI n ≤ x
      refine And.intro ⟨rfl, Or.inr rfl, Nat.le_refl _, Nat.le_refl _⟩ ?_
      rw [bi_t ((irq (by omega)).mpr ⟨cz1, cz6⟩)] at hQ
      exact hQ
theorem C186 {d : Nat} {m : Mm} {Q : Option Value → Mm → Prop} {a n : Nat} {x : Int32} (hd : 1 ≤ d) (hW : Wd m.2.2) (ha : va_rf (mR m 0 3) = .ref a) (hL : LW m.2.2 a) (hn : mI m (a + 1) 10 = nI n) (hn9 : n ≤ 100) (hQ : Q (some (.int (bi (iR x n)))) m) : Cc d 0 0 186 [.ref 0, .int x] m Q := by
  refine ent (n := 42) z186 (by decide) rfl (by decide) (Nat.le_of_ble_eq_true rfl) (fun sc => ?_)
  refine And.intro (fun cz1 => ?_) (fun cz1 => ?_)
  · -- 1 taken: x < 0
    refine And.intro ⟨rfl, Or.inl rfl, Nat.le_refl _, Nat.le_refl _⟩ ?_
    rw [bi_f (fun z => ((irq (by omega)).mp z).1 cz1)] at hQ
    exact hQ
  · -- 1 not: ¬ x < 0
    refine And.intro (Wdo_0 hW) (Exists.intro _ (And.intro ha ?_))
    refine And.intro ⟨by omega, Nat.le_of_ble_eq_true rfl, Nat.le_refl _, Nat.le_refl _⟩ (And.intro (LWo_0 hL) ?_)
    refine C25 hL ?_
    rw [hn]
    refine And.intro (fun cz6 => ?_) (fun cz6 => ?_)
    · -- 6 taken: nI n ≤ x
      refine And.intro ⟨rfl, Or.inl rfl, Nat.le_refl _, Nat.le_refl _⟩ ?_
      rw [bi_f (fun z => ((irq (by omega)).mp z).2 cz6)] at hQ
      exact hQ
    · -- 6 not: ¬ nI n ≤ x
      refine And.intro ⟨rfl, Or.inr rfl, Nat.le_refl _, Nat.le_refl _⟩ ?_
      rw [bi_t ((irq (by omega)).mpr ⟨cz1, cz6⟩)] at hQ
      exact hQ
theorem C183 {d : Nat} {m : Mm} {Q : Option Value → Mm → Prop} {x : Int32} (hQ : Q (some (.int (bi (iR x 5)))) m) : Cc d 0 0 183 [.int x] m Q := by
  refine ent (n := 38) z183 (by decide) rfl (by decide) (Nat.le_of_ble_eq_true rfl) (fun sc => ?_)
  refine And.intro (fun cz1 => ?_) (fun cz1 => ?_)
  · -- 1 taken: x < 0
    refine And.intro ⟨rfl, Or.inl rfl, Nat.le_refl _, Nat.le_refl _⟩ ?_
    rw [bi_f (fun z => ((irq (by omega)).mp z).1 cz1)] at hQ
    exact hQ
  · -- 1 not: ¬ x < 0
    refine And.intro (fun cz4 => ?_) (fun cz4 => ?_)
    · -- 4 taken: nI 5 ≤ x
      refine And.intro ⟨rfl, Or.inl rfl, Nat.le_refl _, Nat.le_refl _⟩ ?_
      rw [bi_f (fun z => ((irq (by omega)).mp z).2 cz4)] at hQ
      exact hQ
    · -- 4 not: ¬ nI 5 ≤ x
      refine And.intro ⟨rfl, Or.inr rfl, Nat.le_refl _, Nat.le_refl _⟩ ?_
      rw [bi_t ((irq (by omega)).mpr ⟨cz1, cz4⟩)] at hQ
      exact hQ
theorem C184 {d : Nat} {m : Mm} {Q : Option Value → Mm → Prop} {x : Int32} (hQ : Q (some (.int (bi (iR x 24)))) m) : Cc d 0 0 184 [.int x] m Q := by
  refine ent (n := 38) z184 (by decide) rfl (by decide) (Nat.le_of_ble_eq_true rfl) (fun sc => ?_)
  refine And.intro (fun cz1 => ?_) (fun cz1 => ?_)
  · -- 1 taken: x < 0
    refine And.intro ⟨rfl, Or.inl rfl, Nat.le_refl _, Nat.le_refl _⟩ ?_
    rw [bi_f (fun z => ((irq (by omega)).mp z).1 cz1)] at hQ
    exact hQ
  · -- 1 not: ¬ x < 0
    refine And.intro (fun cz4 => ?_) (fun cz4 => ?_)
    · -- 4 taken: nI 24 ≤ x
      refine And.intro ⟨rfl, Or.inl rfl, Nat.le_refl _, Nat.le_refl _⟩ ?_
      rw [bi_f (fun z => ((irq (by omega)).mp z).2 cz4)] at hQ
      exact hQ
    · -- 4 not: ¬ nI 24 ≤ x
      refine And.intro ⟨rfl, Or.inr rfl, Nat.le_refl _, Nat.le_refl _⟩ ?_
      rw [bi_t ((irq (by omega)).mpr ⟨cz1, cz4⟩)] at hQ
      exact hQ
theorem C251 {d : Nat} {m : Mm} {Q : Option Value → Mm → Prop} {x : Int32} (hQ : Q (some (.int (bi (iR x 5)))) m) : Cc d 0 0 251 [.int x] m Q := by
  refine ent (n := 38) z251 (by decide) rfl (by decide) (Nat.le_of_ble_eq_true rfl) (fun sc => ?_)
  refine And.intro (fun cz1 => ?_) (fun cz1 => ?_)
  · -- 1 taken: x < 0
    refine And.intro ⟨rfl, Or.inl rfl, Nat.le_refl _, Nat.le_refl _⟩ ?_
    rw [bi_f (fun z => ((irq (by omega)).mp z).1 cz1)] at hQ
    exact hQ
  · -- 1 not: ¬ x < 0
    refine And.intro (fun cz4 => ?_) (fun cz4 => ?_)
    · -- 4 taken: nI 5 ≤ x
      refine And.intro ⟨rfl, Or.inl rfl, Nat.le_refl _, Nat.le_refl _⟩ ?_
      rw [bi_f (fun z => ((irq (by omega)).mp z).2 cz4)] at hQ
      exact hQ
    · -- 4 not: ¬ nI 5 ≤ x
      refine And.intro ⟨rfl, Or.inr rfl, Nat.le_refl _, Nat.le_refl _⟩ ?_
      rw [bi_t ((irq (by omega)).mpr ⟨cz1, cz4⟩)] at hQ
      exact hQ
theorem C252 {d : Nat} {m : Mm} {Q : Option Value → Mm → Prop} {x : Int32} (hQ : Q (some (.int (bi (iR x 24)))) m) : Cc d 0 0 252 [.int x] m Q := by
  refine ent (n := 38) z252 (by decide) rfl (by decide) (Nat.le_of_ble_eq_true rfl) (fun sc => ?_)
  refine And.intro (fun cz1 => ?_) (fun cz1 => ?_)
  · -- 1 taken: x < 0
    refine And.intro ⟨rfl, Or.inl rfl, Nat.le_refl _, Nat.le_refl _⟩ ?_
    rw [bi_f (fun z => ((irq (by omega)).mp z).1 cz1)] at hQ
    exact hQ
  · -- 1 not: ¬ x < 0
    refine And.intro (fun cz4 => ?_) (fun cz4 => ?_)
    · -- 4 taken: nI 24 ≤ x
      refine And.intro ⟨rfl, Or.inl rfl, Nat.le_refl _, Nat.le_refl _⟩ ?_
      rw [bi_f (fun z => ((irq (by omega)).mp z).2 cz4)] at hQ
      exact hQ
    · -- 4 not: ¬ nI 24 ≤ x
      refine And.intro ⟨rfl, Or.inr rfl, Nat.le_refl _, Nat.le_refl _⟩ ?_
      rw [bi_t ((irq (by omega)).mpr ⟨cz1, cz4⟩)] at hQ
      exact hQ
theorem C177 {d : Nat} {m : Mm} {Q : Option Value → Mm → Prop} {x : Int32} (hW : Wd m.2.2) (hQ : Q (some (.int x)) (uI m 0 0 (nI 0))) : Cc d 0 0 177 [.ref 0, .int x] m Q := by
  refine ent (n := 30) z177 (by decide) rfl (by decide) (Nat.le_of_ble_eq_true rfl) (fun sc => ?_)
  refine And.intro (Wdo_0 hW) ?_
  refine And.intro ⟨rfl, trivial, Nat.le_refl _, Nat.le_refl _⟩ ?_
  exact hQ
theorem C176 {d : Nat} {m : Mm} {Q : Option Value → Mm → Prop} {x : Int32} (hW : Wd m.2.2) (hQ : Q (some (.int (-nI 1))) (uI m 0 0 x)) : Cc d 0 0 176 [.ref 0, .int x] m Q := by
  refine ent (n := 30) z176 (by decide) rfl (by decide) (Nat.le_of_ble_eq_true rfl) (fun sc => ?_)
  refine And.intro (Wdo_0 hW) ?_
  refine And.intro ⟨rfl, trivial, Nat.le_refl _, Nat.le_refl _⟩ ?_
  exact hQ
theorem C178 {d : Nat} {m : Mm} {Q : Option Value → Mm → Prop} {x : Int32} (hW : Wd m.2.2) (hQ : Q (some (.int (nI 0))) (uI m 0 0 x)) : Cc d 0 0 178 [.ref 0, .int x] m Q := by
  refine ent (n := 30) z178 (by decide) rfl (by decide) (Nat.le_of_ble_eq_true rfl) (fun sc => ?_)
  refine And.intro (Wdo_0 hW) ?_
  refine And.intro ⟨rfl, Or.inl rfl, Nat.le_refl _, Nat.le_refl _⟩ ?_
  exact hQ
theorem C179 {d : Nat} {m : Mm} {Q : Option Value → Mm → Prop} (hW : Wd m.2.2) (hQ : Q (some (.int (nI 1))) (uI m 0 0 (nI 0))) : Cc d 0 0 179 [.ref 0] m Q := by
  refine ent (n := 30) z179 (by decide) rfl (by decide) (Nat.le_of_ble_eq_true rfl) (fun sc => ?_)
  refine And.intro (Wdo_0 hW) ?_
  refine And.intro ⟨rfl, Or.inr rfl, Nat.le_refl _, Nat.le_refl _⟩ ?_
  exact hQ
theorem C180 {d : Nat} {m : Mm} {Q : Option Value → Mm → Prop} {P : Prop} (hQ : Q (some (.int (bi P))) m) : Cc d 0 0 180 [.int (bi P)] m Q := by
  refine ent (n := 32) z180 (by decide) rfl (by decide) (Nat.le_of_ble_eq_true rfl) (fun sc => ?_)
  refine And.intro (fun cz1 => ?_) (fun cz1 => ?_)
  · -- 1 taken: bi P = 0
    refine And.intro ⟨rfl, trivial, Nat.le_refl _, Nat.le_refl _⟩ ?_
    rw [bi_f (bi_eq0.mp cz1)] at hQ
    exact hQ
  · -- 1 not: ¬ bi P = 0
    refine And.intro ⟨rfl, trivial, Nat.le_refl _, Nat.le_refl _⟩ ?_
    rw [bi_t (bi_ne0.mp cz1)] at hQ
    exact hQ
theorem C247 {d : Nat} {m : Mm} {Q : Option Value → Mm → Prop} {n : Nat} {x : Int32} (hd : 1 ≤ d) (hW : Wd m.2.2) (hl : LN m 6 n) (hn9 : n ≤ 100) (hQ : Q (some (.int (bi (iR x n)))) m) : Cc d 0 0 247 [.ref 142, .int x] m Q := by
  rcases hl with ⟨h0, hn0⟩ | ⟨q, h158, h3, hN, hn⟩
  · skip
    refine ent (n := 48) z247 (by decide) rfl (by decide) (Nat.le_of_ble_eq_true rfl) (fun sc => ?_)
    refine And.intro (Wdo_142 hW) (Exists.intro _ (And.intro (show va_rf (mR m 142 3) = .null by rw [h0]; rfl) ?_))
    refine And.intro ⟨rfl, Or.inl rfl, Nat.le_refl _, Nat.le_refl _⟩ ?_
    rw [bi_f (fun z => by obtain ⟨w, hw, -⟩ := z; omega)] at hQ
    exact hQ
  · skip
    refine ent (n := 48) z247 (by decide) rfl (by decide) (Nat.le_of_ble_eq_true rfl) (fun sc => ?_)
    refine And.intro (Wdo_142 hW) (Exists.intro _ (And.intro (show va_rf (mR m 142 3) = .ref q by rw [h3]; rfl) ?_))
    refine And.intro (fun cz4 => ?_) (fun cz4 => ?_)
    · -- 4 taken: x < 0
      refine And.intro ⟨rfl, Or.inl rfl, Nat.le_refl _, Nat.le_refl _⟩ ?_
      rw [bi_f (fun z => ((irq (by omega)).mp z).1 cz4)] at hQ
      exact hQ
    · -- 4 not: ¬ x < 0
      refine And.intro (Wdo_142 hW) (Exists.intro _ (And.intro (show va_rf (mR m 142 3) = .ref q by rw [h3]; rfl) ?_))
      refine And.intro (NWo_0 hN) ?_
      rw [hn]
      refine And.intro (fun cz9 => ?_) (fun cz9 => ?_)
      · -- 9 taken: nI n ≤ x
        refine And.intro ⟨rfl, Or.inl rfl, Nat.le_refl _, Nat.le_refl _⟩ ?_
        rw [bi_f (fun z => ((irq (by omega)).mp z).2 cz9)] at hQ
        exact hQ
      · -- 9 not: ¬ nI n ≤ x
        refine And.intro ⟨rfl, Or.inr rfl, Nat.le_refl _, Nat.le_refl _⟩ ?_
        rw [bi_t ((irq (by omega)).mpr ⟨cz4, cz9⟩)] at hQ
        exact hQ
theorem C248 {d : Nat} {m : Mm} {Q : Option Value → Mm → Prop} {n : Nat} {x : Int32} (hd : 1 ≤ d) (hW : Wd m.2.2) (hl : LN m 5 n) (hn9 : n ≤ 100) (hQ : Q (some (.int (bi (iR x n)))) m) : Cc d 0 0 248 [.ref 142, .int x] m Q := by
  rcases hl with ⟨h0, hn0⟩ | ⟨q, h158, h3, hN, hn⟩
  · skip
    refine ent (n := 48) z248 (by decide) rfl (by decide) (Nat.le_of_ble_eq_true rfl) (fun sc => ?_)
    refine And.intro (Wdo_142 hW) (Exists.intro _ (And.intro (show va_rf (mR m 142 3) = .null by rw [h0]; rfl) ?_))
    refine And.intro ⟨rfl, Or.inl rfl, Nat.le_refl _, Nat.le_refl _⟩ ?_
    rw [bi_f (fun z => by obtain ⟨w, hw, -⟩ := z; omega)] at hQ
    exact hQ
  · skip
    refine ent (n := 48) z248 (by decide) rfl (by decide) (Nat.le_of_ble_eq_true rfl) (fun sc => ?_)
    refine And.intro (Wdo_142 hW) (Exists.intro _ (And.intro (show va_rf (mR m 142 3) = .ref q by rw [h3]; rfl) ?_))
    refine And.intro (fun cz4 => ?_) (fun cz4 => ?_)
    · -- 4 taken: x < 0
      refine And.intro ⟨rfl, Or.inl rfl, Nat.le_refl _, Nat.le_refl _⟩ ?_
      rw [bi_f (fun z => ((irq (by omega)).mp z).1 cz4)] at hQ
      exact hQ
    · -- 4 not: ¬ x < 0
      refine And.intro (Wdo_142 hW) (Exists.intro _ (And.intro (show va_rf (mR m 142 3) = .ref q by rw [h3]; rfl) ?_))
      refine And.intro (NWo_0 hN) ?_
      rw [hn]
      refine And.intro (fun cz9 => ?_) (fun cz9 => ?_)
      · -- 9 taken: nI n ≤ x
        refine And.intro ⟨rfl, Or.inl rfl, Nat.le_refl _, Nat.le_refl _⟩ ?_
        rw [bi_f (fun z => ((irq (by omega)).mp z).2 cz9)] at hQ
        exact hQ
      · -- 9 not: ¬ nI n ≤ x
        refine And.intro ⟨rfl, Or.inr rfl, Nat.le_refl _, Nat.le_refl _⟩ ?_
        rw [bi_t ((irq (by omega)).mpr ⟨cz4, cz9⟩)] at hQ
        exact hQ
theorem C249 {d : Nat} {m : Mm} {Q : Option Value → Mm → Prop} {n : Nat} {x : Int32} (hd : 1 ≤ d) (hW : Wd m.2.2) (hl : LN m 10 n) (hn9 : n ≤ 100) (hQ : Q (some (.int (bi (iR x n)))) m) : Cc d 0 0 249 [.ref 142, .int x] m Q := by
  rcases hl with ⟨h0, hn0⟩ | ⟨q, h158, h3, hN, hn⟩
  · skip
    refine ent (n := 48) z249 (by decide) rfl (by decide) (Nat.le_of_ble_eq_true rfl) (fun sc => ?_)
    refine And.intro (Wdo_142 hW) (Exists.intro _ (And.intro (show va_rf (mR m 142 3) = .null by rw [h0]; rfl) ?_))
    refine And.intro ⟨rfl, Or.inl rfl, Nat.le_refl _, Nat.le_refl _⟩ ?_
    rw [bi_f (fun z => by obtain ⟨w, hw, -⟩ := z; omega)] at hQ
    exact hQ
  · skip
    refine ent (n := 48) z249 (by decide) rfl (by decide) (Nat.le_of_ble_eq_true rfl) (fun sc => ?_)
    refine And.intro (Wdo_142 hW) (Exists.intro _ (And.intro (show va_rf (mR m 142 3) = .ref q by rw [h3]; rfl) ?_))
    refine And.intro (fun cz4 => ?_) (fun cz4 => ?_)
    · -- 4 taken: x < 0
      refine And.intro ⟨rfl, Or.inl rfl, Nat.le_refl _, Nat.le_refl _⟩ ?_
      rw [bi_f (fun z => ((irq (by omega)).mp z).1 cz4)] at hQ
      exact hQ
    · -- 4 not: ¬ x < 0
      refine And.intro (Wdo_142 hW) (Exists.intro _ (And.intro (show va_rf (mR m 142 3) = .ref q by rw [h3]; rfl) ?_))
      refine And.intro (NWo_0 hN) ?_
      rw [hn]
      refine And.intro (fun cz9 => ?_) (fun cz9 => ?_)
      · -- 9 taken: nI n ≤ x
        refine And.intro ⟨rfl, Or.inl rfl, Nat.le_refl _, Nat.le_refl _⟩ ?_
        rw [bi_f (fun z => ((irq (by omega)).mp z).2 cz9)] at hQ
        exact hQ
      · -- 9 not: ¬ nI n ≤ x
        refine And.intro ⟨rfl, Or.inr rfl, Nat.le_refl _, Nat.le_refl _⟩ ?_
        rw [bi_t ((irq (by omega)).mpr ⟨cz4, cz9⟩)] at hQ
        exact hQ
theorem C250 {d : Nat} {m : Mm} {Q : Option Value → Mm → Prop} {n : Nat} {x : Int32} (hd : 1 ≤ d) (hW : Wd m.2.2) (hl : LN m 12 n) (hn9 : n ≤ 100) (hQ : Q (some (.int (bi (iR x n)))) m) : Cc d 0 0 250 [.ref 142, .int x] m Q := by
  rcases hl with ⟨h0, hn0⟩ | ⟨q, h158, h3, hN, hn⟩
  · skip
    refine ent (n := 48) z250 (by decide) rfl (by decide) (Nat.le_of_ble_eq_true rfl) (fun sc => ?_)
    refine And.intro (Wdo_142 hW) (Exists.intro _ (And.intro (show va_rf (mR m 142 3) = .null by rw [h0]; rfl) ?_))
    refine And.intro ⟨rfl, Or.inl rfl, Nat.le_refl _, Nat.le_refl _⟩ ?_
    rw [bi_f (fun z => by obtain ⟨w, hw, -⟩ := z; omega)] at hQ
    exact hQ
  · skip
    refine ent (n := 48) z250 (by decide) rfl (by decide) (Nat.le_of_ble_eq_true rfl) (fun sc => ?_)
    refine And.intro (Wdo_142 hW) (Exists.intro _ (And.intro (show va_rf (mR m 142 3) = .ref q by rw [h3]; rfl) ?_))
    refine And.intro (fun cz4 => ?_) (fun cz4 => ?_)
    · -- 4 taken: x < 0
      refine And.intro ⟨rfl, Or.inl rfl, Nat.le_refl _, Nat.le_refl _⟩ ?_
      rw [bi_f (fun z => ((irq (by omega)).mp z).1 cz4)] at hQ
      exact hQ
    · -- 4 not: ¬ x < 0
      refine And.intro (Wdo_142 hW) (Exists.intro _ (And.intro (show va_rf (mR m 142 3) = .ref q by rw [h3]; rfl) ?_))
      refine And.intro (NWo_0 hN) ?_
      rw [hn]
      refine And.intro (fun cz9 => ?_) (fun cz9 => ?_)
      · -- 9 taken: nI n ≤ x
        refine And.intro ⟨rfl, Or.inl rfl, Nat.le_refl _, Nat.le_refl _⟩ ?_
        rw [bi_f (fun z => ((irq (by omega)).mp z).2 cz9)] at hQ
        exact hQ
      · -- 9 not: ¬ nI n ≤ x
        refine And.intro ⟨rfl, Or.inr rfl, Nat.le_refl _, Nat.le_refl _⟩ ?_
        rw [bi_t ((irq (by omega)).mpr ⟨cz4, cz9⟩)] at hQ
        exact hQ
