def nwT : List (Nat × Nat) := [(100, 24), (100, 6), (100, 6), (100, 6), (100, 6), (100, 6), (100, 180), (100, 36), (100, 6), (100, 8), (100, 8), (100, 8), (100, 8), (100, 8), (100, 8), (100, 8), (100, 8), (100, 4), (100, 4), (100, 6), (100, 6), (100, 8), (100, 8), (100, 8), (102, 8), (103, 32), (100, 32), (100, 32)]
/-- a land of the reference while it is made: so many of its rows stand -/
def nwF (m : Mm) (z : Nat) : Nat → Mm
  | 0 => uI m z 16 (-nI 1)
  | j + 1 => uR (nA (nwF m z j) (nwT.getD j (0, 0)).1 (nwT.getD j (0, 0)).2) z (17 + j) (some (z + 1 + j))
theorem nw_Z {m : Mm} {z : Nat} (hz : mZ m = z + 1) : ∀ j, mZ (nwF m z j) = z + 1 + j
  | 0 => hz
  | j + 1 => by show mZ (nwF m z j) + 1 = _; rw [nw_Z hz j]; omega
theorem nw_S {m : Mm} {z a : Nat} (hz : mZ m = z + 1) : ∀ j, mS (nwF m z j) a = if z < a ∧ a ≤ z + j then nwT.getD (a - z - 1) (0, 0) else mS m a
  | 0 => by rw [if_neg (by omega)]; rfl
  | j + 1 => by
    have e : mS (nwF m z (j + 1)) a = va_up (mS (nwF m z j)) (mZ (nwF m z j)) ((nwT.getD j (0, 0)).1, (nwT.getD j (0, 0)).2) a := rfl
    rw [e, nw_Z hz j]
    by_cases h : a = z + 1 + j
    · rw [h, up_eq, if_pos (by omega), show z + 1 + j - z - 1 = j by omega]
    · rw [up_ne h, nw_S hz j]
      by_cases h2 : z < a ∧ a ≤ z + j
      · rw [if_pos h2, if_pos (by omega)]
      · rw [if_neg h2, if_neg (by omega)]
theorem nw_I {m : Mm} {z a : Nat} (hz : mZ m = z + 1) : ∀ j, mI (nwF m z j) a = if z < a ∧ a ≤ z + j then (fun _ => 0) else if a = z then upd (mI m z) 16 (-nI 1) else mI m a
  | 0 => by
    rw [if_neg (by omega)]
    by_cases h : a = z
    · rw [h, if_pos rfl]; exact uI_eq
    · rw [if_neg h]; exact uI_ne h
  | j + 1 => by
    have e : mI (nwF m z (j + 1)) a = va_up (mI (nwF m z j)) (mZ (nwF m z j)) (fun _ => 0) a := rfl
    rw [e, nw_Z hz j]
    by_cases h : a = z + 1 + j
    · rw [h, up_eq, if_pos (by omega)]
    · rw [up_ne h, nw_I hz j]
      by_cases h2 : z < a ∧ a ≤ z + j
      · rw [if_pos h2, if_pos (by omega)]
      · rw [if_neg h2, if_neg (show ¬ (z < a ∧ a ≤ z + (j + 1)) by omega)]
theorem nw_J {m : Mm} {z a : Nat} (hz : mZ m = z + 1) : ∀ j, mJ (nwF m z j) a = if z < a ∧ a ≤ z + j then (fun _ => 0) else mJ m a
  | 0 => by rw [if_neg (by omega)]; rfl
  | j + 1 => by
    have e : mJ (nwF m z (j + 1)) a = va_up (mJ (nwF m z j)) (mZ (nwF m z j)) (fun _ => 0) a := rfl
    rw [e, nw_Z hz j]
    by_cases h : a = z + 1 + j
    · rw [h, up_eq, if_pos (by omega)]
    · rw [up_ne h, nw_J hz j]
      by_cases h2 : z < a ∧ a ≤ z + j
      · rw [if_pos h2, if_pos (by omega)]
      · rw [if_neg h2, if_neg (by omega)]
theorem nw_R {m : Mm} {z a : Nat} (hz : mZ m = z + 1) (ha : a < z) : ∀ j, mR (nwF m z j) a = mR m a
  | 0 => rfl
  | j + 1 => by
    have e : mR (nwF m z (j + 1)) a = va_up (mR (nwF m z j)) (mZ (nwF m z j)) (fun _ => none) a := uR_ne (show a ≠ z by omega)
    rw [e, nw_Z hz j, up_ne (by omega), nw_R hz ha j]
theorem nw_Rz {m : Mm} {z i : Nat} (hz : mZ m = z + 1) : ∀ j, mR (nwF m z j) z i = if 17 ≤ i ∧ i < 17 + j then some (z + 1 + (i - 17)) else mR m z i
  | 0 => by rw [if_neg (by omega)]; rfl
  | j + 1 => by
    have e : mR (nwF m z (j + 1)) z = va_up (va_up (mR (nwF m z j)) (mZ (nwF m z j)) (fun _ => none) z) (17 + j) (some (z + 1 + j)) := uR_eq
    rw [e, nw_Z hz j, up_ne (show z ≠ z + 1 + j by omega)]
    by_cases h : i = 17 + j
    · rw [h, up_eq, if_pos (by omega), show 17 + j - 17 = j by omega]
    · rw [up_ne h, nw_Rz hz j]
      by_cases h2 : 17 ≤ i ∧ i < 17 + j
      · rw [if_pos h2, if_pos (by omega)]
      · rw [if_neg h2, if_neg (by omega)]
theorem nw_o {m : Mm} {z t n : Nat} (hz : mZ m = z + 1) (hs : mS m z = (10, 45)) (j : Nat) : oS (nA (nwF m z j) t n) z 10 := by
  have e : mS (nA (nwF m z j) t n) z = mS m z := by
    show va_up (mS (nwF m z j)) (mZ (nwF m z j)) (t, n) z = _
    rw [nw_Z hz j, up_ne (by omega), nw_S hz j, if_neg (by omega)]
  refine ⟨?_, ?_⟩
  · show z < mZ (nwF m z j) + 1
    rw [nw_Z hz j]; omega
  · show (mS (nA (nwF m z j) t n) z).1 = 10
    rw [e, hs]
/-- the reference's new land at z -/
def nLd (m : Mm) (z : Nat) : Mm := rI (nwF m z 28) (z + 8) (fiF (mI (nwF m z 28) (z + 8)) (-nI 2) 36)
theorem nwT_n {m : Mm} {z : Nat} (hz : mZ m = z + 1) (j : Nat) (hj : j < 28) : mS (nwF m z 28) (z + (j + 1)) = nwT.getD j (0, 0) := by rw [nw_S hz, if_pos (by omega), show z + (j + 1) - z - 1 = j by omega]
theorem nL_NW {m : Mm} {z : Nat} (hz : mZ m = z + 1) (hs : mS m z = (10, 45)) : NW (nwF m z 28).2.2 z := by
  have hR : ∀ j, j < 28 → mR (nwF m z 28) z (17 + j) = some (z + (j + 1)) := fun j hj => by
    rw [nw_Rz hz, if_pos (by omega)]
    exact congrArg some (by omega)
  have hS0 : mS (nwF m z 28) z = (10, 45) := by rw [nw_S hz, if_neg (by omega), hs]
  refine ⟨?_, hS0, nwT_n hz 0 (by decide), nwT_n hz 1 (by decide), nwT_n hz 2 (by decide), nwT_n hz 3 (by decide), nwT_n hz 4 (by decide), nwT_n hz 5 (by decide), nwT_n hz 6 (by decide), nwT_n hz 7 (by decide), nwT_n hz 8 (by decide), nwT_n hz 9 (by decide), nwT_n hz 10 (by decide), nwT_n hz 11 (by decide), nwT_n hz 12 (by decide), nwT_n hz 13 (by decide), nwT_n hz 14 (by decide), nwT_n hz 15 (by decide), nwT_n hz 16 (by decide), nwT_n hz 17 (by decide), nwT_n hz 18 (by decide), nwT_n hz 19 (by decide), nwT_n hz 20 (by decide), nwT_n hz 21 (by decide), nwT_n hz 22 (by decide), nwT_n hz 23 (by decide), nwT_n hz 24 (by decide), nwT_n hz 25 (by decide), nwT_n hz 26 (by decide), nwT_n hz 27 (by decide), hR 0 (by decide), hR 1 (by decide), hR 2 (by decide), hR 3 (by decide), hR 4 (by decide), hR 5 (by decide), hR 6 (by decide), hR 7 (by decide), hR 8 (by decide), hR 9 (by decide), hR 10 (by decide), hR 11 (by decide), hR 12 (by decide), hR 13 (by decide), hR 14 (by decide), hR 15 (by decide), hR 16 (by decide), hR 17 (by decide), hR 18 (by decide), hR 19 (by decide), hR 20 (by decide), hR 21 (by decide), hR 22 (by decide), hR 23 (by decide), hR 24 (by decide), hR 25 (by decide), hR 26 (by decide), hR 27 (by decide)⟩
  show z + 29 ≤ mZ (nwF m z 28)
  rw [nw_Z hz]; omega
theorem linit_b {sc : Nat × (Nat → Int32)} {d : Nat} {m : Mm} {Q : Option Value → Mm → Prop} {q : Nat} (hN : NW m.2.2 q) (hQ : Q none (rI m (q + 8) (fiF (mI m (q + 8)) (-nI 2) 36)))  : ∀ (j i : Nat), i ≤ 36 → 36 + 1 ≤ i + j → Jj sc d 28 488 (mth 195) (pg P195 119).1 [some (.ref q), some (.int (nI i))] [] (rI m (q + 8) (fiF (mI m (q + 8)) (-nI 2) i)) 28 488 Q := by
  intro j
  induction j with
  | zero => intro i h1 h2; omega
  | succ j ih =>
    intro i h1 h2
    refine J_w z195 (i := 119) (by decide) 284 ?_
    refine And.intro (NWo_0 hN) (Exists.intro _ (And.intro (NWr_0_24 hN) ?_))
    refine And.intro (NWo_8 hN) ?_
    rw [NWn_8 (m := rI m (q + 8) (fiF (mI m (q + 8)) (-nI 2) i)) hN]
    refine And.intro (fun cz123 => ?_) (fun cz123 => ?_)
    · -- 123 taken: nI 36 ≤ nI i
      have kz123 : 36 ≤ i := kle (a := 36) (b := i) rfl rfl (by omega) (by omega) cz123
      refine And.intro ⟨rfl, rfl, Nat.le_refl _, Nat.le_refl _⟩ ?_
      rw [show i = 36 by omega]
      exact hQ
    · -- 123 not: ¬ nI 36 ≤ nI i
      have kz123 : i < 36 := knle (a := 36) (b := i) rfl rfl (by omega) (by omega) cz123
      refine And.intro (NWo_0 hN) (Exists.intro _ (And.intro (NWr_0_24 hN) ?_))
      refine And.intro (NWi_8 hN (vi rfl (by omega))) ?_
      rw [nI_clamp (show i < 2 ^ 31 by omega)]
      rw [uI_rI, fiF_s]
      show Jj sc d 28 488 (mth 195) (pg P195 119).1 [some (.ref q), some (.int (nI i + nI 1))] [] (rI m (q + 8) (fiF (mI m (q + 8)) (-nI 2) (i + 1))) 28 488 Q
      rw [show nI i + nI 1 = nI (i + 1) from by simp only [nI_add, pk_mul]]
      exact ih (i + 1) (by omega) (by omega)
theorem C195 {d : Nat} {m : Mm} {Q : Option Value → Mm → Prop} {z : Nat} (hd : 1 ≤ d) (hz : mZ m = z + 1) (hs : mS m z = (10, 45)) (hlt : z + 30 < 999999) (hQ : Q none (nLd m z)) : Cc d 28 488 195 [.ref z] m Q := by
  refine ent (n := 284) z195 (by decide) rfl (by decide) (Nat.le_of_ble_eq_true rfl) (fun sc => ?_)
  refine And.intro ⟨by omega, Nat.le_of_ble_eq_true rfl⟩ ?_
  refine And.intro ⟨by show z < mZ m; omega, by show (mS m z).1 = 10; rw [hs]⟩ ?_
  show zw sc d 28 488 (mth 195).2.2.2.2.1 P195 (KJ sc d 28 488 (mth 195) P195 Q) Q 280 5 [some (.ref z), none] [] (nwF m z 0) 0 0
  refine And.intro ⟨by decide, by decide, by decide, by decide, by show mZ (nwF m z 0) < 999999; rw [nw_Z hz]; omega⟩ ?_
  show zw sc d 28 488 (mth 195).2.2.2.2.1 P195 (KJ sc d 28 488 (mth 195) P195 Q) Q 277 8 [some (.ref z), none] [.ref (mZ (nwF m z 0)), .ref z] (nA (nwF m z 0) 100 24) 1 24
  rw [nw_Z hz 0]
  refine And.intro (nw_o hz hs 0) ?_
  show zw sc d 28 488 (mth 195).2.2.2.2.1 P195 (KJ sc d 28 488 (mth 195) P195 Q) Q 276 9 [some (.ref z), none] [] (nwF m z 1) 1 24
  refine And.intro ⟨by decide, by decide, by decide, by decide, by show mZ (nwF m z 1) < 999999; rw [nw_Z hz]; omega⟩ ?_
  show zw sc d 28 488 (mth 195).2.2.2.2.1 P195 (KJ sc d 28 488 (mth 195) P195 Q) Q 273 12 [some (.ref z), none] [.ref (mZ (nwF m z 1)), .ref z] (nA (nwF m z 1) 100 6) 2 30
  rw [nw_Z hz 1]
  refine And.intro (nw_o hz hs 1) ?_
  show zw sc d 28 488 (mth 195).2.2.2.2.1 P195 (KJ sc d 28 488 (mth 195) P195 Q) Q 272 13 [some (.ref z), none] [] (nwF m z 2) 2 30
  refine And.intro ⟨by decide, by decide, by decide, by decide, by show mZ (nwF m z 2) < 999999; rw [nw_Z hz]; omega⟩ ?_
  show zw sc d 28 488 (mth 195).2.2.2.2.1 P195 (KJ sc d 28 488 (mth 195) P195 Q) Q 269 16 [some (.ref z), none] [.ref (mZ (nwF m z 2)), .ref z] (nA (nwF m z 2) 100 6) 3 36
  rw [nw_Z hz 2]
  refine And.intro (nw_o hz hs 2) ?_
  show zw sc d 28 488 (mth 195).2.2.2.2.1 P195 (KJ sc d 28 488 (mth 195) P195 Q) Q 268 17 [some (.ref z), none] [] (nwF m z 3) 3 36
  refine And.intro ⟨by decide, by decide, by decide, by decide, by show mZ (nwF m z 3) < 999999; rw [nw_Z hz]; omega⟩ ?_
  show zw sc d 28 488 (mth 195).2.2.2.2.1 P195 (KJ sc d 28 488 (mth 195) P195 Q) Q 265 20 [some (.ref z), none] [.ref (mZ (nwF m z 3)), .ref z] (nA (nwF m z 3) 100 6) 4 42
  rw [nw_Z hz 3]
  refine And.intro (nw_o hz hs 3) ?_
  show zw sc d 28 488 (mth 195).2.2.2.2.1 P195 (KJ sc d 28 488 (mth 195) P195 Q) Q 264 21 [some (.ref z), none] [] (nwF m z 4) 4 42
  refine And.intro ⟨by decide, by decide, by decide, by decide, by show mZ (nwF m z 4) < 999999; rw [nw_Z hz]; omega⟩ ?_
  show zw sc d 28 488 (mth 195).2.2.2.2.1 P195 (KJ sc d 28 488 (mth 195) P195 Q) Q 261 24 [some (.ref z), none] [.ref (mZ (nwF m z 4)), .ref z] (nA (nwF m z 4) 100 6) 5 48
  rw [nw_Z hz 4]
  refine And.intro (nw_o hz hs 4) ?_
  show zw sc d 28 488 (mth 195).2.2.2.2.1 P195 (KJ sc d 28 488 (mth 195) P195 Q) Q 260 25 [some (.ref z), none] [] (nwF m z 5) 5 48
  refine And.intro ⟨by decide, by decide, by decide, by decide, by show mZ (nwF m z 5) < 999999; rw [nw_Z hz]; omega⟩ ?_
  show zw sc d 28 488 (mth 195).2.2.2.2.1 P195 (KJ sc d 28 488 (mth 195) P195 Q) Q 257 28 [some (.ref z), none] [.ref (mZ (nwF m z 5)), .ref z] (nA (nwF m z 5) 100 6) 6 54
  rw [nw_Z hz 5]
  refine And.intro (nw_o hz hs 5) ?_
  show zw sc d 28 488 (mth 195).2.2.2.2.1 P195 (KJ sc d 28 488 (mth 195) P195 Q) Q 256 29 [some (.ref z), none] [] (nwF m z 6) 6 54
  refine And.intro ⟨by decide, by decide, by decide, by decide, by show mZ (nwF m z 6) < 999999; rw [nw_Z hz]; omega⟩ ?_
  show zw sc d 28 488 (mth 195).2.2.2.2.1 P195 (KJ sc d 28 488 (mth 195) P195 Q) Q 253 32 [some (.ref z), none] [.ref (mZ (nwF m z 6)), .ref z] (nA (nwF m z 6) 100 180) 7 234
  rw [nw_Z hz 6]
  refine And.intro (nw_o hz hs 6) ?_
  show zw sc d 28 488 (mth 195).2.2.2.2.1 P195 (KJ sc d 28 488 (mth 195) P195 Q) Q 252 33 [some (.ref z), none] [] (nwF m z 7) 7 234
  refine And.intro ⟨by decide, by decide, by decide, by decide, by show mZ (nwF m z 7) < 999999; rw [nw_Z hz]; omega⟩ ?_
  show zw sc d 28 488 (mth 195).2.2.2.2.1 P195 (KJ sc d 28 488 (mth 195) P195 Q) Q 249 36 [some (.ref z), none] [.ref (mZ (nwF m z 7)), .ref z] (nA (nwF m z 7) 100 36) 8 270
  rw [nw_Z hz 7]
  refine And.intro (nw_o hz hs 7) ?_
  show zw sc d 28 488 (mth 195).2.2.2.2.1 P195 (KJ sc d 28 488 (mth 195) P195 Q) Q 248 37 [some (.ref z), none] [] (nwF m z 8) 8 270
  refine And.intro ⟨by decide, by decide, by decide, by decide, by show mZ (nwF m z 8) < 999999; rw [nw_Z hz]; omega⟩ ?_
  show zw sc d 28 488 (mth 195).2.2.2.2.1 P195 (KJ sc d 28 488 (mth 195) P195 Q) Q 245 40 [some (.ref z), none] [.ref (mZ (nwF m z 8)), .ref z] (nA (nwF m z 8) 100 6) 9 276
  rw [nw_Z hz 8]
  refine And.intro (nw_o hz hs 8) ?_
  show zw sc d 28 488 (mth 195).2.2.2.2.1 P195 (KJ sc d 28 488 (mth 195) P195 Q) Q 244 41 [some (.ref z), none] [] (nwF m z 9) 9 276
  refine And.intro ⟨by decide, by decide, by decide, by decide, by show mZ (nwF m z 9) < 999999; rw [nw_Z hz]; omega⟩ ?_
  show zw sc d 28 488 (mth 195).2.2.2.2.1 P195 (KJ sc d 28 488 (mth 195) P195 Q) Q 241 44 [some (.ref z), none] [.ref (mZ (nwF m z 9)), .ref z] (nA (nwF m z 9) 100 8) 10 284
  rw [nw_Z hz 9]
  refine And.intro (nw_o hz hs 9) ?_
  show zw sc d 28 488 (mth 195).2.2.2.2.1 P195 (KJ sc d 28 488 (mth 195) P195 Q) Q 240 45 [some (.ref z), none] [] (nwF m z 10) 10 284
  refine And.intro ⟨by decide, by decide, by decide, by decide, by show mZ (nwF m z 10) < 999999; rw [nw_Z hz]; omega⟩ ?_
  show zw sc d 28 488 (mth 195).2.2.2.2.1 P195 (KJ sc d 28 488 (mth 195) P195 Q) Q 237 48 [some (.ref z), none] [.ref (mZ (nwF m z 10)), .ref z] (nA (nwF m z 10) 100 8) 11 292
  rw [nw_Z hz 10]
  refine And.intro (nw_o hz hs 10) ?_
  show zw sc d 28 488 (mth 195).2.2.2.2.1 P195 (KJ sc d 28 488 (mth 195) P195 Q) Q 236 49 [some (.ref z), none] [] (nwF m z 11) 11 292
  refine And.intro ⟨by decide, by decide, by decide, by decide, by show mZ (nwF m z 11) < 999999; rw [nw_Z hz]; omega⟩ ?_
  show zw sc d 28 488 (mth 195).2.2.2.2.1 P195 (KJ sc d 28 488 (mth 195) P195 Q) Q 233 52 [some (.ref z), none] [.ref (mZ (nwF m z 11)), .ref z] (nA (nwF m z 11) 100 8) 12 300
  rw [nw_Z hz 11]
  refine And.intro (nw_o hz hs 11) ?_
  show zw sc d 28 488 (mth 195).2.2.2.2.1 P195 (KJ sc d 28 488 (mth 195) P195 Q) Q 232 53 [some (.ref z), none] [] (nwF m z 12) 12 300
  refine And.intro ⟨by decide, by decide, by decide, by decide, by show mZ (nwF m z 12) < 999999; rw [nw_Z hz]; omega⟩ ?_
  show zw sc d 28 488 (mth 195).2.2.2.2.1 P195 (KJ sc d 28 488 (mth 195) P195 Q) Q 229 56 [some (.ref z), none] [.ref (mZ (nwF m z 12)), .ref z] (nA (nwF m z 12) 100 8) 13 308
  rw [nw_Z hz 12]
  refine And.intro (nw_o hz hs 12) ?_
  show zw sc d 28 488 (mth 195).2.2.2.2.1 P195 (KJ sc d 28 488 (mth 195) P195 Q) Q 228 57 [some (.ref z), none] [] (nwF m z 13) 13 308
  refine And.intro ⟨by decide, by decide, by decide, by decide, by show mZ (nwF m z 13) < 999999; rw [nw_Z hz]; omega⟩ ?_
  show zw sc d 28 488 (mth 195).2.2.2.2.1 P195 (KJ sc d 28 488 (mth 195) P195 Q) Q 225 60 [some (.ref z), none] [.ref (mZ (nwF m z 13)), .ref z] (nA (nwF m z 13) 100 8) 14 316
  rw [nw_Z hz 13]
  refine And.intro (nw_o hz hs 13) ?_
  show zw sc d 28 488 (mth 195).2.2.2.2.1 P195 (KJ sc d 28 488 (mth 195) P195 Q) Q 224 61 [some (.ref z), none] [] (nwF m z 14) 14 316
  refine And.intro ⟨by decide, by decide, by decide, by decide, by show mZ (nwF m z 14) < 999999; rw [nw_Z hz]; omega⟩ ?_
  show zw sc d 28 488 (mth 195).2.2.2.2.1 P195 (KJ sc d 28 488 (mth 195) P195 Q) Q 221 64 [some (.ref z), none] [.ref (mZ (nwF m z 14)), .ref z] (nA (nwF m z 14) 100 8) 15 324
  rw [nw_Z hz 14]
  refine And.intro (nw_o hz hs 14) ?_
  show zw sc d 28 488 (mth 195).2.2.2.2.1 P195 (KJ sc d 28 488 (mth 195) P195 Q) Q 220 65 [some (.ref z), none] [] (nwF m z 15) 15 324
  refine And.intro ⟨by decide, by decide, by decide, by decide, by show mZ (nwF m z 15) < 999999; rw [nw_Z hz]; omega⟩ ?_
  show zw sc d 28 488 (mth 195).2.2.2.2.1 P195 (KJ sc d 28 488 (mth 195) P195 Q) Q 217 68 [some (.ref z), none] [.ref (mZ (nwF m z 15)), .ref z] (nA (nwF m z 15) 100 8) 16 332
  rw [nw_Z hz 15]
  refine And.intro (nw_o hz hs 15) ?_
  show zw sc d 28 488 (mth 195).2.2.2.2.1 P195 (KJ sc d 28 488 (mth 195) P195 Q) Q 216 69 [some (.ref z), none] [] (nwF m z 16) 16 332
  refine And.intro ⟨by decide, by decide, by decide, by decide, by show mZ (nwF m z 16) < 999999; rw [nw_Z hz]; omega⟩ ?_
  show zw sc d 28 488 (mth 195).2.2.2.2.1 P195 (KJ sc d 28 488 (mth 195) P195 Q) Q 213 72 [some (.ref z), none] [.ref (mZ (nwF m z 16)), .ref z] (nA (nwF m z 16) 100 8) 17 340
  rw [nw_Z hz 16]
  refine And.intro (nw_o hz hs 16) ?_
  show zw sc d 28 488 (mth 195).2.2.2.2.1 P195 (KJ sc d 28 488 (mth 195) P195 Q) Q 212 73 [some (.ref z), none] [] (nwF m z 17) 17 340
  refine And.intro ⟨by decide, by decide, by decide, by decide, by show mZ (nwF m z 17) < 999999; rw [nw_Z hz]; omega⟩ ?_
  show zw sc d 28 488 (mth 195).2.2.2.2.1 P195 (KJ sc d 28 488 (mth 195) P195 Q) Q 209 76 [some (.ref z), none] [.ref (mZ (nwF m z 17)), .ref z] (nA (nwF m z 17) 100 4) 18 344
  rw [nw_Z hz 17]
  refine And.intro (nw_o hz hs 17) ?_
  show zw sc d 28 488 (mth 195).2.2.2.2.1 P195 (KJ sc d 28 488 (mth 195) P195 Q) Q 208 77 [some (.ref z), none] [] (nwF m z 18) 18 344
  refine And.intro ⟨by decide, by decide, by decide, by decide, by show mZ (nwF m z 18) < 999999; rw [nw_Z hz]; omega⟩ ?_
  show zw sc d 28 488 (mth 195).2.2.2.2.1 P195 (KJ sc d 28 488 (mth 195) P195 Q) Q 205 80 [some (.ref z), none] [.ref (mZ (nwF m z 18)), .ref z] (nA (nwF m z 18) 100 4) 19 348
  rw [nw_Z hz 18]
  refine And.intro (nw_o hz hs 18) ?_
  show zw sc d 28 488 (mth 195).2.2.2.2.1 P195 (KJ sc d 28 488 (mth 195) P195 Q) Q 204 81 [some (.ref z), none] [] (nwF m z 19) 19 348
  refine And.intro ⟨by decide, by decide, by decide, by decide, by show mZ (nwF m z 19) < 999999; rw [nw_Z hz]; omega⟩ ?_
  show zw sc d 28 488 (mth 195).2.2.2.2.1 P195 (KJ sc d 28 488 (mth 195) P195 Q) Q 201 84 [some (.ref z), none] [.ref (mZ (nwF m z 19)), .ref z] (nA (nwF m z 19) 100 6) 20 354
  rw [nw_Z hz 19]
  refine And.intro (nw_o hz hs 19) ?_
  show zw sc d 28 488 (mth 195).2.2.2.2.1 P195 (KJ sc d 28 488 (mth 195) P195 Q) Q 200 85 [some (.ref z), none] [] (nwF m z 20) 20 354
  refine And.intro ⟨by decide, by decide, by decide, by decide, by show mZ (nwF m z 20) < 999999; rw [nw_Z hz]; omega⟩ ?_
  show zw sc d 28 488 (mth 195).2.2.2.2.1 P195 (KJ sc d 28 488 (mth 195) P195 Q) Q 197 88 [some (.ref z), none] [.ref (mZ (nwF m z 20)), .ref z] (nA (nwF m z 20) 100 6) 21 360
  rw [nw_Z hz 20]
  refine And.intro (nw_o hz hs 20) ?_
  show zw sc d 28 488 (mth 195).2.2.2.2.1 P195 (KJ sc d 28 488 (mth 195) P195 Q) Q 196 89 [some (.ref z), none] [] (nwF m z 21) 21 360
  refine And.intro ⟨by decide, by decide, by decide, by decide, by show mZ (nwF m z 21) < 999999; rw [nw_Z hz]; omega⟩ ?_
  show zw sc d 28 488 (mth 195).2.2.2.2.1 P195 (KJ sc d 28 488 (mth 195) P195 Q) Q 193 92 [some (.ref z), none] [.ref (mZ (nwF m z 21)), .ref z] (nA (nwF m z 21) 100 8) 22 368
  rw [nw_Z hz 21]
  refine And.intro (nw_o hz hs 21) ?_
  show zw sc d 28 488 (mth 195).2.2.2.2.1 P195 (KJ sc d 28 488 (mth 195) P195 Q) Q 192 93 [some (.ref z), none] [] (nwF m z 22) 22 368
  refine And.intro ⟨by decide, by decide, by decide, by decide, by show mZ (nwF m z 22) < 999999; rw [nw_Z hz]; omega⟩ ?_
  show zw sc d 28 488 (mth 195).2.2.2.2.1 P195 (KJ sc d 28 488 (mth 195) P195 Q) Q 189 96 [some (.ref z), none] [.ref (mZ (nwF m z 22)), .ref z] (nA (nwF m z 22) 100 8) 23 376
  rw [nw_Z hz 22]
  refine And.intro (nw_o hz hs 22) ?_
  show zw sc d 28 488 (mth 195).2.2.2.2.1 P195 (KJ sc d 28 488 (mth 195) P195 Q) Q 188 97 [some (.ref z), none] [] (nwF m z 23) 23 376
  refine And.intro ⟨by decide, by decide, by decide, by decide, by show mZ (nwF m z 23) < 999999; rw [nw_Z hz]; omega⟩ ?_
  show zw sc d 28 488 (mth 195).2.2.2.2.1 P195 (KJ sc d 28 488 (mth 195) P195 Q) Q 185 100 [some (.ref z), none] [.ref (mZ (nwF m z 23)), .ref z] (nA (nwF m z 23) 100 8) 24 384
  rw [nw_Z hz 23]
  refine And.intro (nw_o hz hs 23) ?_
  show zw sc d 28 488 (mth 195).2.2.2.2.1 P195 (KJ sc d 28 488 (mth 195) P195 Q) Q 184 101 [some (.ref z), none] [] (nwF m z 24) 24 384
  refine And.intro ⟨by decide, by decide, by decide, by decide, by show mZ (nwF m z 24) < 999999; rw [nw_Z hz]; omega⟩ ?_
  show zw sc d 28 488 (mth 195).2.2.2.2.1 P195 (KJ sc d 28 488 (mth 195) P195 Q) Q 181 104 [some (.ref z), none] [.ref (mZ (nwF m z 24)), .ref z] (nA (nwF m z 24) 102 8) 25 392
  rw [nw_Z hz 24]
  refine And.intro (nw_o hz hs 24) ?_
  show zw sc d 28 488 (mth 195).2.2.2.2.1 P195 (KJ sc d 28 488 (mth 195) P195 Q) Q 180 105 [some (.ref z), none] [] (nwF m z 25) 25 392
  refine And.intro ⟨by decide, by decide, by decide, by decide, by show mZ (nwF m z 25) < 999999; rw [nw_Z hz]; omega⟩ ?_
  show zw sc d 28 488 (mth 195).2.2.2.2.1 P195 (KJ sc d 28 488 (mth 195) P195 Q) Q 177 108 [some (.ref z), none] [.ref (mZ (nwF m z 25)), .ref z] (nA (nwF m z 25) 103 32) 26 424
  rw [nw_Z hz 25]
  refine And.intro (nw_o hz hs 25) ?_
  show zw sc d 28 488 (mth 195).2.2.2.2.1 P195 (KJ sc d 28 488 (mth 195) P195 Q) Q 176 109 [some (.ref z), none] [] (nwF m z 26) 26 424
  refine And.intro ⟨by decide, by decide, by decide, by decide, by show mZ (nwF m z 26) < 999999; rw [nw_Z hz]; omega⟩ ?_
  show zw sc d 28 488 (mth 195).2.2.2.2.1 P195 (KJ sc d 28 488 (mth 195) P195 Q) Q 173 112 [some (.ref z), none] [.ref (mZ (nwF m z 26)), .ref z] (nA (nwF m z 26) 100 32) 27 456
  rw [nw_Z hz 26]
  refine And.intro (nw_o hz hs 26) ?_
  show zw sc d 28 488 (mth 195).2.2.2.2.1 P195 (KJ sc d 28 488 (mth 195) P195 Q) Q 172 113 [some (.ref z), none] [] (nwF m z 27) 27 456
  refine And.intro ⟨by decide, by decide, by decide, by decide, by show mZ (nwF m z 27) < 999999; rw [nw_Z hz]; omega⟩ ?_
  show zw sc d 28 488 (mth 195).2.2.2.2.1 P195 (KJ sc d 28 488 (mth 195) P195 Q) Q 169 116 [some (.ref z), none] [.ref (mZ (nwF m z 27)), .ref z] (nA (nwF m z 27) 100 32) 28 488
  rw [nw_Z hz 27]
  refine And.intro (nw_o hz hs 27) ?_
  show zw sc d 28 488 (mth 195).2.2.2.2.1 P195 (KJ sc d 28 488 (mth 195) P195 Q) Q 168 117 [some (.ref z), none] [] (nwF m z 28) 28 488
  show Jj sc d 28 488 (mth 195) (pg P195 119).1 [some (.ref z), some (.int (nI 0))] [] (nwF m z 28) 28 488 Q
  have w9 := linit_b (sc := sc) (d := d) (nL_NW hz hs) hQ 37 0 (by decide) (by decide)
  rw [fiF_0, rI_self] at w9
  exact w9
