def taS (fat end_ due wai : Nat → Int32) (w : Int32) : Nat → Int32 → Int32 := fun p y => if w = nI 2 then y + (wai p) else (if w = nI 1 then (if ltF (fat) (end_) (due) p = 0 then y + nI 0 else y + nI 1) else (if w = 0 then (if fat p = nI 0 then y + nI 1 else y) else (if fat p = nI 1 then y + nI 1 else y)))
def taQ (fat end_ due wai : Nat → Int32) (w : Int32) (p : Nat) : Int32 := fo (taS fat end_ due wai w) (nI 0) p
theorem taQ_s {fat end_ due wai : Nat → Int32} {w : Int32} {p : Nat} : taQ fat end_ due wai w (p + 1) = taS fat end_ due wai w p (taQ fat end_ due wai w p) := fo_s
theorem lq16 {sc : Nat × (Nat → Int32)} {d : Nat} {m : Mm} {Q : Option Value → Mm → Prop} {x : Nat} (hD : DW m.2.2 x) {w : Int32} (hd : 1 ≤ d) (hQ : Q (some (.int (taQ (mI m (x + 1)) (mI m (x + 2)) (mI m (x + 3)) (mI m (x + 7)) w 8))) m)  : ∀ (j p : Nat), p ≤ 8 → 8 + 1 ≤ p + j → Jj sc d 0 0 (mth 16) (pg P16 4).1 [some (.ref x), some (.int w), some (.int (taQ (mI m (x + 1)) (mI m (x + 2)) (mI m (x + 3)) (mI m (x + 7)) w p)), some (.int (nI p))] [] m 0 0 Q := by
  intro j
  induction j with
  | zero => intro p h1 h2; omega
  | succ j ih =>
    intro p h1 h2
    refine J_w z16 (i := 4) (by decide) 114 ?_
    refine And.intro (fun cz6 => ?_) (fun cz6 => ?_)
    · -- 6 taken: nI 8 ≤ nI p
      have kz6 : 8 ≤ p := kle (a := 8) (b := p) rfl rfl (by omega) (by omega) cz6
      refine And.intro ⟨rfl, trivial, Nat.le_refl _, Nat.le_refl _⟩ ?_
      rw [show p = 8 by omega]
      exact hQ
    · -- 6 not: ¬ nI 8 ≤ nI p
      have kz6 : p < 8 := knle (a := 8) (b := p) rfl rfl (by omega) (by omega) cz6
      refine And.intro (fun cz9 => ?_) (fun cz9 => ?_)
      · -- 9 taken: ¬ w = nI 2
        refine And.intro (fun cz20 => ?_) (fun cz20 => ?_)
        · -- 20 taken: ¬ w = nI 1
          refine And.intro (DWo_0 hD) (Exists.intro _ (And.intro (DWr_0_0 hD) ?_))
          refine And.intro (DWi_1 hD (vi rfl (by omega))) ?_
          rw [nI_clamp (show p < 2 ^ 31 by omega)]
          refine And.intro (fun cz37 => ?_) (fun cz37 => ?_)
          · -- 37 taken: ¬ w = 0
            refine And.intro (fun cz41 => ?_) (fun cz41 => ?_)
            · -- 41 taken: ¬ mI m (x + 1) p = nI 1
              show Jj sc d 0 0 (mth 16) (pg P16 4).1 [some (.ref x), some (.int w), some (.int (taQ (mI m (x + 1)) (mI m (x + 2)) (mI m (x + 3)) (mI m (x + 7)) w p)), some (.int (nI p + nI 1))] [] m 0 0 Q
              rw [show nI p + nI 1 = nI (p + 1) from by simp only [nI_add, pk_mul]]
              have z := ih (p + 1) (by omega) (by omega)
              rw [taQ_s] at z
              unfold taS at z
              rw [if_neg cz9, if_neg cz20, if_neg cz37, if_neg cz41] at z
              exact z
            · -- 41 not: mI m (x + 1) p = nI 1
              show Jj sc d 0 0 (mth 16) (pg P16 4).1 [some (.ref x), some (.int w), some (.int ((taQ (mI m (x + 1)) (mI m (x + 2)) (mI m (x + 3)) (mI m (x + 7)) w p) + nI 1)), some (.int (nI p + nI 1))] [] m 0 0 Q
              rw [show nI p + nI 1 = nI (p + 1) from by simp only [nI_add, pk_mul]]
              have z := ih (p + 1) (by omega) (by omega)
              rw [taQ_s] at z
              unfold taS at z
              rw [if_neg cz9, if_neg cz20, if_neg cz37, if_pos cz41] at z
              exact z
          · -- 37 not: w = 0
            refine And.intro (fun cz41 => ?_) (fun cz41 => ?_)
            · -- 41 taken: ¬ mI m (x + 1) p = nI 0
              show Jj sc d 0 0 (mth 16) (pg P16 4).1 [some (.ref x), some (.int w), some (.int (taQ (mI m (x + 1)) (mI m (x + 2)) (mI m (x + 3)) (mI m (x + 7)) w p)), some (.int (nI p + nI 1))] [] m 0 0 Q
              rw [show nI p + nI 1 = nI (p + 1) from by simp only [nI_add, pk_mul]]
              have z := ih (p + 1) (by omega) (by omega)
              rw [taQ_s] at z
              unfold taS at z
              rw [if_neg cz9, if_neg cz20, if_pos cz37, if_neg cz41] at z
              exact z
            · -- 41 not: mI m (x + 1) p = nI 0
              show Jj sc d 0 0 (mth 16) (pg P16 4).1 [some (.ref x), some (.int w), some (.int ((taQ (mI m (x + 1)) (mI m (x + 2)) (mI m (x + 3)) (mI m (x + 7)) w p) + nI 1)), some (.int (nI p + nI 1))] [] m 0 0 Q
              rw [show nI p + nI 1 = nI (p + 1) from by simp only [nI_add, pk_mul]]
              have z := ih (p + 1) (by omega) (by omega)
              rw [taQ_s] at z
              unfold taS at z
              rw [if_neg cz9, if_neg cz20, if_pos cz37, if_pos cz41] at z
              exact z
        · -- 20 not: w = nI 1
          refine And.intro ⟨by omega, Nat.le_of_ble_eq_true rfl, Nat.le_refl _, Nat.le_refl _⟩ (And.intro (DWo_0 hD) ?_)
          refine C13 (p := p) hD (by omega) ?_
          refine And.intro (fun cz25 => ?_) (fun cz25 => ?_)
          · -- 25 taken: ltF (mI m (x + 1)) (mI m (x + 2)) (mI m (x + 3)) p = 0
            show Jj sc d 0 0 (mth 16) (pg P16 4).1 [some (.ref x), some (.int w), some (.int ((taQ (mI m (x + 1)) (mI m (x + 2)) (mI m (x + 3)) (mI m (x + 7)) w p) + nI 0)), some (.int (nI p + nI 1))] [] m 0 0 Q
            rw [show nI p + nI 1 = nI (p + 1) from by simp only [nI_add, pk_mul]]
            have z := ih (p + 1) (by omega) (by omega)
            rw [taQ_s] at z
            unfold taS at z
            rw [if_neg cz9, if_pos cz20, if_pos cz25] at z
            exact z
          · -- 25 not: ¬ ltF (mI m (x + 1)) (mI m (x + 2)) (mI m (x + 3)) p = 0
            show Jj sc d 0 0 (mth 16) (pg P16 4).1 [some (.ref x), some (.int w), some (.int ((taQ (mI m (x + 1)) (mI m (x + 2)) (mI m (x + 3)) (mI m (x + 7)) w p) + nI 1)), some (.int (nI p + nI 1))] [] m 0 0 Q
            rw [show nI p + nI 1 = nI (p + 1) from by simp only [nI_add, pk_mul]]
            have z := ih (p + 1) (by omega) (by omega)
            rw [taQ_s] at z
            unfold taS at z
            rw [if_neg cz9, if_pos cz20, if_neg cz25] at z
            exact z
      · -- 9 not: w = nI 2
        refine And.intro (DWo_0 hD) (Exists.intro _ (And.intro (DWr_0_6 hD) ?_))
        refine And.intro (DWi_7 hD (vi rfl (by omega))) ?_
        rw [nI_clamp (show p < 2 ^ 31 by omega)]
        show Jj sc d 0 0 (mth 16) (pg P16 4).1 [some (.ref x), some (.int w), some (.int ((taQ (mI m (x + 1)) (mI m (x + 2)) (mI m (x + 3)) (mI m (x + 7)) w p) + (mI m (x + 7) p))), some (.int (nI p + nI 1))] [] m 0 0 Q
        rw [show nI p + nI 1 = nI (p + 1) from by simp only [nI_add, pk_mul]]
        have z := ih (p + 1) (by omega) (by omega)
        rw [taQ_s] at z
        unfold taS at z
        rw [if_pos cz9] at z
        exact z
theorem C16 {d : Nat} {m : Mm} {Q : Option Value → Mm → Prop} {x : Nat} (hD : DW m.2.2 x) {w : Int32} (hd : 1 ≤ d) (hQ : Q (some (.int (taQ (mI m (x + 1)) (mI m (x + 2)) (mI m (x + 3)) (mI m (x + 7)) w 8))) m) : Cc d 0 0 16 [.ref x, .int w] m Q := by
  refine ent (n := 114) z16 (by decide) rfl (by decide) (Nat.le_of_ble_eq_true rfl) (fun sc => ?_)
  show Jj sc d 0 0 (mth 16) (pg P16 4).1 [some (.ref x), some (.int w), some (.int (nI 0)), some (.int (nI 0))] [] m 0 0 Q
  exact lq16 hD hd hQ 9 0 (by decide) (by decide)
def gbS (fat : Nat → Int32) : Nat → Int32 → Int32 := fun p y => if fat p = 0 then y ||| nI 1 <<< (nI p &&& 31) else y
def gbQ (fat : Nat → Int32) (p : Nat) : Int32 := fo (gbS fat) (nI 0) p
theorem gbQ_s {fat : Nat → Int32} {p : Nat} : gbQ fat (p + 1) = gbS fat p (gbQ fat p) := fo_s
theorem lq17 {sc : Nat × (Nat → Int32)} {d : Nat} {m : Mm} {Q : Option Value → Mm → Prop} {x : Nat} (hD : DW m.2.2 x) (hQ : Q (some (.int (gbQ (mI m (x + 1)) 8))) m)  : ∀ (j p : Nat), p ≤ 8 → 8 + 1 ≤ p + j → Jj sc d 0 0 (mth 17) (pg P17 4).1 [some (.ref x), some (.int (gbQ (mI m (x + 1)) p)), some (.int (nI p))] [] m 0 0 Q := by
  intro j
  induction j with
  | zero => intro p h1 h2; omega
  | succ j ih =>
    intro p h1 h2
    refine J_w z17 (i := 4) (by decide) 64 ?_
    refine And.intro (fun cz6 => ?_) (fun cz6 => ?_)
    · -- 6 taken: nI 8 ≤ nI p
      have kz6 : 8 ≤ p := kle (a := 8) (b := p) rfl rfl (by omega) (by omega) cz6
      refine And.intro ⟨rfl, trivial, Nat.le_refl _, Nat.le_refl _⟩ ?_
      rw [show p = 8 by omega]
      exact hQ
    · -- 6 not: ¬ nI 8 ≤ nI p
      have kz6 : p < 8 := knle (a := 8) (b := p) rfl rfl (by omega) (by omega) cz6
      refine And.intro (DWo_0 hD) (Exists.intro _ (And.intro (DWr_0_0 hD) ?_))
      refine And.intro (DWi_1 hD (vi rfl (by omega))) ?_
      rw [nI_clamp (show p < 2 ^ 31 by omega)]
      refine And.intro (fun cz11 => ?_) (fun cz11 => ?_)
      · -- 11 taken: ¬ mI m (x + 1) p = 0
        show Jj sc d 0 0 (mth 17) (pg P17 4).1 [some (.ref x), some (.int (gbQ (mI m (x + 1)) p)), some (.int (nI p + nI 1))] [] m 0 0 Q
        rw [show nI p + nI 1 = nI (p + 1) from by simp only [nI_add, pk_mul]]
        have z := ih (p + 1) (by omega) (by omega)
        rw [gbQ_s] at z
        unfold gbS at z
        rw [if_neg cz11] at z
        exact z
      · -- 11 not: mI m (x + 1) p = 0
        show Jj sc d 0 0 (mth 17) (pg P17 4).1 [some (.ref x), some (.int ((gbQ (mI m (x + 1)) p) ||| (nI 1 <<< (nI p &&& 31)))), some (.int (nI p + nI 1))] [] m 0 0 Q
        rw [show nI p + nI 1 = nI (p + 1) from by simp only [nI_add, pk_mul]]
        have z := ih (p + 1) (by omega) (by omega)
        rw [gbQ_s] at z
        unfold gbS at z
        rw [if_pos cz11] at z
        exact z
theorem C17 {d : Nat} {m : Mm} {Q : Option Value → Mm → Prop} {x : Nat} (hD : DW m.2.2 x) (hQ : Q (some (.int (gbQ (mI m (x + 1)) 8))) m) : Cc d 0 0 17 [.ref x] m Q := by
  refine ent (n := 64) z17 (by decide) rfl (by decide) (Nat.le_of_ble_eq_true rfl) (fun sc => ?_)
  show Jj sc d 0 0 (mth 17) (pg P17 4).1 [some (.ref x), some (.int (nI 0)), some (.int (nI 0))] [] m 0 0 Q
  exact lq17 hD hQ 9 0 (by decide) (by decide)
def gcQ (fat : Nat → Int32) (p : Nat) : Int32 := fo (fun p y => if fat p = 0 then y + nI 1 else y) (nI 0) p
theorem gcQ_s {fat : Nat → Int32} {p : Nat} : gcQ fat (p + 1) = if fat p = 0 then gcQ fat p + nI 1 else gcQ fat p := fo_s
theorem lq18 {sc : Nat × (Nat → Int32)} {d : Nat} {m : Mm} {Q : Option Value → Mm → Prop} {x : Nat} (hD : DW m.2.2 x) {i : Int32} (hQ : ∀ p, p < 8 → mI m (x + 1) p = 0 → gcQ (mI m (x + 1)) p = i → Q (some (.int (nI p))) m) (hN : (∀ p, p < 8 → mI m (x + 1) p = 0 → ¬ gcQ (mI m (x + 1)) p = i) → Q (some (.int (-nI 1))) m)  : ∀ (j p : Nat), p ≤ 8 → 8 + 1 ≤ p + j → (∀ p1, p1 < p → mI m (x + 1) p1 = 0 → ¬ gcQ (mI m (x + 1)) p1 = i) → Jj sc d 0 0 (mth 18) (pg P18 4).1 [some (.ref x), some (.int i), some (.int (gcQ (mI m (x + 1)) p)), some (.int (nI p))] [] m 0 0 Q := by
  intro j
  induction j with
  | zero => intro p h1 h2 hall; omega
  | succ j ih =>
    intro p h1 h2 hall
    refine J_w z18 (i := 4) (by decide) 64 ?_
    refine And.intro (fun cz6 => ?_) (fun cz6 => ?_)
    · -- 6 taken: nI 8 ≤ nI p
      have kz6 : 8 ≤ p := kle (a := 8) (b := p) rfl rfl (by omega) (by omega) cz6
      refine And.intro ⟨rfl, trivial, Nat.le_refl _, Nat.le_refl _⟩ ?_
      rw [show p = 8 by omega] at hall
      exact hN hall
    · -- 6 not: ¬ nI 8 ≤ nI p
      have kz6 : p < 8 := knle (a := 8) (b := p) rfl rfl (by omega) (by omega) cz6
      refine And.intro (DWo_0 hD) (Exists.intro _ (And.intro (DWr_0_0 hD) ?_))
      refine And.intro (DWi_1 hD (vi rfl (by omega))) ?_
      rw [nI_clamp (show p < 2 ^ 31 by omega)]
      refine And.intro (fun cz11 => ?_) (fun cz11 => ?_)
      · -- 11 taken: ¬ mI m (x + 1) p = 0
        show Jj sc d 0 0 (mth 18) (pg P18 4).1 [some (.ref x), some (.int i), some (.int (gcQ (mI m (x + 1)) p)), some (.int (nI p + nI 1))] [] m 0 0 Q
        rw [show nI p + nI 1 = nI (p + 1) from by simp only [nI_add, pk_mul]]
        have hall2 : ∀ p1, p1 < p + 1 → mI m (x + 1) p1 = 0 → ¬ gcQ (mI m (x + 1)) p1 = i := by
          intro v9 h9
          rcases Nat.lt_or_ge v9 p with q9 | q9
          · exact hall v9 q9
          · have ez9 : v9 = p := by omega
            rw [ez9]
            exact fun z => absurd z cz11
        have z := ih (p + 1) (by omega) (by omega) hall2
        rw [gcQ_s, if_neg cz11] at z
        exact z
      · -- 11 not: mI m (x + 1) p = 0
        refine And.intro (fun cz14 => ?_) (fun cz14 => ?_)
        · -- 14 taken: ¬ gcQ (mI m (x + 1)) p = i
          show Jj sc d 0 0 (mth 18) (pg P18 4).1 [some (.ref x), some (.int i), some (.int ((gcQ (mI m (x + 1)) p) + nI 1)), some (.int (nI p + nI 1))] [] m 0 0 Q
          rw [show nI p + nI 1 = nI (p + 1) from by simp only [nI_add, pk_mul]]
          have hall2 : ∀ p1, p1 < p + 1 → mI m (x + 1) p1 = 0 → ¬ gcQ (mI m (x + 1)) p1 = i := by
            intro v9 h9
            rcases Nat.lt_or_ge v9 p with q9 | q9
            · exact hall v9 q9
            · have ez9 : v9 = p := by omega
              rw [ez9]
              exact fun _ => cz14
          have z := ih (p + 1) (by omega) (by omega) hall2
          rw [gcQ_s, if_pos cz11] at z
          exact z
        · -- 14 not: gcQ (mI m (x + 1)) p = i
          refine And.intro ⟨rfl, trivial, Nat.le_refl _, Nat.le_refl _⟩ ?_
          exact hQ p (by omega) cz11 cz14
theorem C18 {d : Nat} {m : Mm} {Q : Option Value → Mm → Prop} {x : Nat} (hD : DW m.2.2 x) {i : Int32} (hQ : ∀ p, p < 8 → mI m (x + 1) p = 0 → gcQ (mI m (x + 1)) p = i → Q (some (.int (nI p))) m) (hN : (∀ p, p < 8 → mI m (x + 1) p = 0 → ¬ gcQ (mI m (x + 1)) p = i) → Q (some (.int (-nI 1))) m)  : Cc d 0 0 18 [.ref x, .int i] m Q := by
  refine ent (n := 64) z18 (by decide) rfl (by decide) (Nat.le_of_ble_eq_true rfl) (fun sc => ?_)
  show Jj sc d 0 0 (mth 18) (pg P18 4).1 [some (.ref x), some (.int i), some (.int (nI 0)), some (.int (nI 0))] [] m 0 0 Q
  exact lq18 hD hQ hN 9 0 (by decide) (by decide) (fun _ h => absurd h (by omega))
def noS (at_ : Nat → Int32) (gs : Int32) : Nat → Int32 → Int32 := fun p y => if bq gs (at_ p) then y &&& (nI 1 <<< (nI p &&& 31) ^^^ -nI 1) else y
def noQ (at_ : Nat → Int32) (gs gr : Int32) (p : Nat) : Int32 := fo (noS at_ gs) gr p
theorem noQ_s {at_ : Nat → Int32} {gs gr : Int32} {p : Nat} : noQ at_ gs gr (p + 1) = noS at_ gs p (noQ at_ gs gr p) := fo_s
abbrev peP (cls : Nat → Int32) (np : Nat) (x : Int32) : Prop := ∀ p1, p1 < np → bq x (nI p1) → cls p1 &&& x = 0
theorem sh2 {n : Nat} (h : n ≤ 8) : nI 1 <<< (nI n &&& 31) = nI (2 ^ n) := by
  match n, h with
  | 0, _ => decide
  | 1, _ => decide
  | 2, _ => decide
  | 3, _ => decide
  | 4, _ => decide
  | 5, _ => decide
  | 6, _ => decide
  | 7, _ => decide
  | 8, _ => decide
  | n + 9, h => exact absurd h (by omega)
theorem p2_8 {n : Nat} (h : n ≤ 8) : 2 ^ n ≤ 256 := Nat.pow_le_pow_right (n := 2) (by decide) h
theorem p2_6 {n : Nat} (h : n ≤ 6) : 2 ^ n ≤ 64 := Nat.pow_le_pow_right (n := 2) (by decide) h
theorem lq48 {sc : Nat × (Nat → Int32)} {d : Nat} {m : Mm} {Q : Option Value → Mm → Prop} {x : Nat} (hD : DW m.2.2 x) {a np : Nat} (hL : LW m.2.2 a) (hp : mI m (a + 1) 8 = nI np) (hp8 : np ≤ 8) {gs gr : Int32} (hd : 1 ≤ d) (hQ : Q (some (.int (noQ (mI m (x + 5)) gs gr np))) m)  : ∀ (j p : Nat), p ≤ np → np + 1 ≤ p + j → Jj sc d 0 0 (mth 48) (pg P48 4).1 [some (.int gs), some (.int gr), some (.ref a), some (.ref x), some (.int (noQ (mI m (x + 5)) gs gr p)), some (.int (nI p))] [] m 0 0 Q := by
  intro j
  induction j with
  | zero => intro p h1 h2; omega
  | succ j ih =>
    intro p h1 h2
    refine J_w z48 (i := 4) (by decide) 80 ?_
    refine And.intro ⟨by omega, Nat.le_of_ble_eq_true rfl, Nat.le_refl _, Nat.le_refl _⟩ (And.intro (LWo_0 hL) ?_)
    refine C24 hL ?_
    rw [hp]
    refine And.intro (fun cz7 => ?_) (fun cz7 => ?_)
    · -- 7 taken: nI np ≤ nI p
      have kz7 : np ≤ p := kle (a := np) (b := p) rfl rfl (by omega) (by omega) cz7
      refine And.intro ⟨rfl, trivial, Nat.le_refl _, Nat.le_refl _⟩ ?_
      rw [show p = np by omega]
      exact hQ
    · -- 7 not: ¬ nI np ≤ nI p
      have kz7 : p < np := knle (a := np) (b := p) rfl rfl (by omega) (by omega) cz7
      refine And.intro (DWo_0 hD) (Exists.intro _ (And.intro (DWr_0_4 hD) ?_))
      refine And.intro (DWi_5 hD (vi rfl (by omega))) ?_
      rw [nI_clamp (show p < 2 ^ 31 by omega)]
      refine And.intro (fun cz17 => ?_) (fun cz17 => ?_)
      · -- 17 taken: ¬ (gs >>> ((mI m (x + 5) p) &&& 31)) &&& nI 1 = nI 1
        show Jj sc d 0 0 (mth 48) (pg P48 4).1 [some (.int gs), some (.int gr), some (.ref a), some (.ref x), some (.int (noQ (mI m (x + 5)) gs gr p)), some (.int (nI p + nI 1))] [] m 0 0 Q
        rw [show nI p + nI 1 = nI (p + 1) from by simp only [nI_add, pk_mul]]
        have z := ih (p + 1) (by omega) (by omega)
        rw [noQ_s] at z
        unfold noS at z
        rw [if_neg cz17] at z
        exact z
      · -- 17 not: (gs >>> ((mI m (x + 5) p) &&& 31)) &&& nI 1 = nI 1
        show Jj sc d 0 0 (mth 48) (pg P48 4).1 [some (.int gs), some (.int gr), some (.ref a), some (.ref x), some (.int ((noQ (mI m (x + 5)) gs gr p) &&& ((nI 1 <<< (nI p &&& 31)) ^^^ (-nI 1)))), some (.int (nI p + nI 1))] [] m 0 0 Q
        rw [show nI p + nI 1 = nI (p + 1) from by simp only [nI_add, pk_mul]]
        have z := ih (p + 1) (by omega) (by omega)
        rw [noQ_s] at z
        unfold noS at z
        rw [if_pos cz17] at z
        exact z
theorem C48 {d : Nat} {m : Mm} {Q : Option Value → Mm → Prop} {x : Nat} (hD : DW m.2.2 x) {a np : Nat} (hL : LW m.2.2 a) (hp : mI m (a + 1) 8 = nI np) (hp8 : np ≤ 8) {gs gr : Int32} (hd : 1 ≤ d) (hQ : Q (some (.int (noQ (mI m (x + 5)) gs gr np))) m) : Cc d 0 0 48 [.int gs, .int gr, .ref a, .ref x] m Q := by
  refine ent (n := 80) z48 (by decide) rfl (by decide) (Nat.le_of_ble_eq_true rfl) (fun sc => ?_)
  show Jj sc d 0 0 (mth 48) (pg P48 4).1 [some (.int gs), some (.int gr), some (.ref a), some (.ref x), some (.int gr), some (.int (nI 0))] [] m 0 0 Q
  exact lq48 hD hL hp hp8 hd hQ (np + 1) 0 (Nat.zero_le _) (by omega)
noncomputable def mtS (P : Int32 → Prop) (gr : Int32) : Nat → Int32 → Int32 := fun s y => if bcF (nI s) ≤ bcF y then y else if nI s &&& (gr ^^^ -nI 1) = 0 then (if bi (¬ P (nI s)) = 0 then nI s else y) else y
noncomputable def mtQ (P : Int32 → Prop) (gr : Int32) (s : Nat) : Int32 := fo (mtS P gr) (nI 0) s
theorem mtQ_s {P : Int32 → Prop} {gr : Int32} {s : Nat} : mtQ P gr (s + 1) = mtS P gr s (mtQ P gr s) := fo_s
theorem mtQ_1 {P : Int32 → Prop} {gr : Int32} : mtQ P gr 1 = nI 0 := by
  rw [show (1 : Nat) = 0 + 1 from rfl, mtQ_s]
  unfold mtS
  rw [show mtQ P gr 0 = nI 0 from rfl, if_pos (show bcF (nI 0) ≤ bcF (nI 0) from Int32.le_refl _)]
theorem lq46 {sc : Nat × (Nat → Int32)} {d : Nat} {m : Mm} {Q : Option Value → Mm → Prop} {x : Nat} (hD : DW m.2.2 x) {a np : Nat} (hL : LW m.2.2 a) (hp : mI m (a + 1) 8 = nI np) (hp8 : np ≤ 8) (hd : 2 ≤ d) (h2n : 2 ^ np ≤ 256) (hQ : Q (some (.int (mtQ (peP (mI m (a + 10)) np) (gbQ (mI m (x + 1)) 8) (2 ^ np)))) m)  : ∀ (j s : Nat), s ≤ 2 ^ np → 2 ^ np + 1 ≤ s + j → Jj sc d 0 0 (mth 46) (pg P46 7).1 [some (.ref a), some (.ref x), some (.int (gbQ (mI m (x + 1)) 8)), some (.int (mtQ (peP (mI m (a + 10)) np) (gbQ (mI m (x + 1)) 8) s)), some (.int (nI s)), none] [] m 0 0 Q := by
  intro j
  induction j with
  | zero => intro s h1 h2; omega
  | succ j ih =>
    intro s h1 h2
    refine J_w z46 (i := 7) (by decide) 100 ?_
    refine And.intro ⟨by omega, Nat.le_of_ble_eq_true rfl, Nat.le_refl _, Nat.le_refl _⟩ (And.intro (LWo_0 hL) ?_)
    refine C24 hL ?_
    rw [hp]
    refine And.intro (fun cz12 => ?_) (fun cz12 => ?_)
    · -- 12 taken: nI 1 <<< (nI np &&& 31) ≤ nI s
      rw [sh2 hp8] at cz12
      have kz12 : 2 ^ np ≤ s := kle (a := 2 ^ np) (b := s) rfl rfl (by omega) (by omega) cz12
      refine And.intro ⟨rfl, trivial, Nat.le_refl _, Nat.le_refl _⟩ ?_
      rw [show s = 2 ^ np by omega]
      exact hQ
    · -- 12 not: ¬ nI 1 <<< (nI np &&& 31) ≤ nI s
      rw [sh2 hp8] at cz12
      have kz12 : s < 2 ^ np := knle (a := 2 ^ np) (b := s) rfl rfl (by omega) (by omega) cz12
      refine And.intro ⟨by omega, Nat.le_of_ble_eq_true rfl, Nat.le_refl _, Nat.le_refl _⟩ ?_
      refine C340 ?_
      refine And.intro ⟨by omega, Nat.le_of_ble_eq_true rfl, Nat.le_refl _, Nat.le_refl _⟩ ?_
      refine C340 ?_
      refine And.intro (fun cz17 => ?_) (fun cz17 => ?_)
      · -- 17 taken: bcF (nI s) ≤ bcF (mtQ (peP (mI m (a + 10)) np) (gbQ (mI m (x + 1)) 8) s)
        refine And.intro (fun cz23 => ?_) (fun cz23 => False.elim (absurd cz23 (by decide)))
        show Jj sc d 0 0 (mth 46) (pg P46 7).1 [some (.ref a), some (.ref x), some (.int (gbQ (mI m (x + 1)) 8)), some (.int (mtQ (peP (mI m (a + 10)) np) (gbQ (mI m (x + 1)) 8) s)), some (.int (nI s + nI 1)), some (.int (nI 0))] [] m 0 0 Q
        rw [show nI s + nI 1 = nI (s + 1) from by simp only [nI_add, pk_mul]]
        refine J_wk (L' := [some (.ref a), some (.ref x), some (.int (gbQ (mI m (x + 1)) 8)), some (.int (mtQ (peP (mI m (a + 10)) np) (gbQ (mI m (x + 1)) 8) s)), some (.int (nI (s + 1))), none]) ⟨rfl, rfl, rfl, rfl, rfl, trivial⟩ ?_
        have z := ih (s + 1) (by omega) (by omega)
        rw [mtQ_s] at z
        unfold mtS at z
        rw [if_pos cz17] at z
        exact z
      · -- 17 not: ¬ bcF (nI s) ≤ bcF (mtQ (peP (mI m (a + 10)) np) (gbQ (mI m (x + 1)) 8) s)
        refine And.intro (fun cz23 => False.elim (absurd cz23 (by decide))) (fun cz23 => ?_)
        refine And.intro (fun cz29 => ?_) (fun cz29 => ?_)
        · -- 29 taken: ¬ nI s &&& ((gbQ (mI m (x + 1)) 8) ^^^ (-nI 1)) = 0
          show Jj sc d 0 0 (mth 46) (pg P46 7).1 [some (.ref a), some (.ref x), some (.int (gbQ (mI m (x + 1)) 8)), some (.int (mtQ (peP (mI m (a + 10)) np) (gbQ (mI m (x + 1)) 8) s)), some (.int (nI s + nI 1)), some (.int (nI 1))] [] m 0 0 Q
          rw [show nI s + nI 1 = nI (s + 1) from by simp only [nI_add, pk_mul]]
          refine J_wk (L' := [some (.ref a), some (.ref x), some (.int (gbQ (mI m (x + 1)) 8)), some (.int (mtQ (peP (mI m (a + 10)) np) (gbQ (mI m (x + 1)) 8) s)), some (.int (nI (s + 1))), none]) ⟨rfl, rfl, rfl, rfl, rfl, trivial⟩ ?_
          have z := ih (s + 1) (by omega) (by omega)
          rw [mtQ_s] at z
          unfold mtS at z
          rw [if_neg cz17, if_neg cz29] at z
          exact z
        · -- 29 not: nI s &&& ((gbQ (mI m (x + 1)) 8) ^^^ (-nI 1)) = 0
          refine And.intro ⟨by omega, Nat.le_of_ble_eq_true rfl, Nat.le_refl _, Nat.le_refl _⟩ ?_
          refine C45 (x := nI s) (by omega) hL hp hp8 ?_
          refine And.intro (fun cz33 => ?_) (fun cz33 => ?_)
          · -- 33 taken: ¬ bi (¬ peP (mI m (a + 10)) np (nI s)) = 0
            show Jj sc d 0 0 (mth 46) (pg P46 7).1 [some (.ref a), some (.ref x), some (.int (gbQ (mI m (x + 1)) 8)), some (.int (mtQ (peP (mI m (a + 10)) np) (gbQ (mI m (x + 1)) 8) s)), some (.int (nI s + nI 1)), some (.int (nI 1))] [] m 0 0 Q
            rw [show nI s + nI 1 = nI (s + 1) from by simp only [nI_add, pk_mul]]
            refine J_wk (L' := [some (.ref a), some (.ref x), some (.int (gbQ (mI m (x + 1)) 8)), some (.int (mtQ (peP (mI m (a + 10)) np) (gbQ (mI m (x + 1)) 8) s)), some (.int (nI (s + 1))), none]) ⟨rfl, rfl, rfl, rfl, rfl, trivial⟩ ?_
            have z := ih (s + 1) (by omega) (by omega)
            rw [mtQ_s] at z
            unfold mtS at z
            rw [if_neg cz17, if_pos cz29, if_neg cz33] at z
            exact z
          · -- 33 not: bi (¬ peP (mI m (a + 10)) np (nI s)) = 0
            show Jj sc d 0 0 (mth 46) (pg P46 7).1 [some (.ref a), some (.ref x), some (.int (gbQ (mI m (x + 1)) 8)), some (.int (nI s)), some (.int (nI s + nI 1)), some (.int (nI 1))] [] m 0 0 Q
            rw [show nI s + nI 1 = nI (s + 1) from by simp only [nI_add, pk_mul]]
            refine J_wk (L' := [some (.ref a), some (.ref x), some (.int (gbQ (mI m (x + 1)) 8)), some (.int (nI s)), some (.int (nI (s + 1))), none]) ⟨rfl, rfl, rfl, rfl, rfl, trivial⟩ ?_
            have z := ih (s + 1) (by omega) (by omega)
            rw [mtQ_s] at z
            unfold mtS at z
            rw [if_neg cz17, if_pos cz29, if_pos cz33] at z
            exact z
theorem C46 {d : Nat} {m : Mm} {Q : Option Value → Mm → Prop} {x : Nat} (hD : DW m.2.2 x) {a np : Nat} (hL : LW m.2.2 a) (hp : mI m (a + 1) 8 = nI np) (hp8 : np ≤ 8) (hd : 2 ≤ d) (hQ : Q (some (.int (mtQ (peP (mI m (a + 10)) np) (gbQ (mI m (x + 1)) 8) (2 ^ np)))) m) : Cc d 0 0 46 [.ref a, .ref x] m Q := by
  refine ent (n := 100) z46 (by decide) rfl (by decide) (Nat.le_of_ble_eq_true rfl) (fun sc => ?_)
  refine And.intro ⟨by omega, Nat.le_of_ble_eq_true rfl, Nat.le_refl _, Nat.le_refl _⟩ (And.intro (DWo_0 hD) ?_)
  refine C17 hD ?_
  show Jj sc d 0 0 (mth 46) (pg P46 7).1 [some (.ref a), some (.ref x), some (.int (gbQ (mI m (x + 1)) 8)), some (.int (nI 0)), some (.int (nI 1)), none] [] m 0 0 Q
  have h2n := p2_8 hp8
  have h3n : 1 ≤ 2 ^ np := Nat.one_le_two_pow
  have z := lq46 (sc := sc) hD hL hp hp8 hd h2n hQ (2 ^ np + 1) 1 h3n (by omega)
  rw [mtQ_1] at z
  exact z
theorem lq47 {sc : Nat × (Nat → Int32)} {d : Nat} {m : Mm} {Q : Option Value → Mm → Prop} {x : Nat} (hD : DW m.2.2 x) {a np : Nat} (hL : LW m.2.2 a) (hp : mI m (a + 1) 8 = nI np) (hp8 : np ≤ 8) {n : Nat} (hn : mI m (a + 1) 4 = nI n) (hn6 : n ≤ 6) (hd : 2 ≤ d) (h2n : 2 ^ n ≤ 64) (hQ : Q (some (.int (fhQ (fun s => peP (mI m (a + 10)) np (noQ (mI m (x + 5)) (nI s) (gbQ (mI m (x + 1)) 8) np)) (2 ^ n)))) m)  : ∀ (j s : Nat), s ≤ 2 ^ n → 2 ^ n + 1 ≤ s + j → Jj sc d 0 0 (mth 47) (pg P47 7).1 [some (.ref a), some (.ref x), some (.int (gbQ (mI m (x + 1)) 8)), some (.int (fhQ (fun s => peP (mI m (a + 10)) np (noQ (mI m (x + 5)) (nI s) (gbQ (mI m (x + 1)) 8) np)) s)), some (.int (nI s))] [] m 0 0 Q := by
  intro j
  induction j with
  | zero => intro s h1 h2; omega
  | succ j ih =>
    intro s h1 h2
    refine J_w z47 (i := 7) (by decide) 82 ?_
    refine And.intro ⟨by omega, Nat.le_of_ble_eq_true rfl, Nat.le_refl _, Nat.le_refl _⟩ (And.intro (LWo_0 hL) ?_)
    refine C23 hL ?_
    rw [hn]
    refine And.intro (fun cz12 => ?_) (fun cz12 => ?_)
    · -- 12 taken: nI 1 <<< (nI n &&& 31) ≤ nI s
      rw [sh2 (by omega)] at cz12
      have kz12 : 2 ^ n ≤ s := kle (a := 2 ^ n) (b := s) rfl rfl (by omega) (by omega) cz12
      refine And.intro ⟨rfl, trivial, Nat.le_refl _, Nat.le_refl _⟩ ?_
      rw [show s = 2 ^ n by omega]
      exact hQ
    · -- 12 not: ¬ nI 1 <<< (nI n &&& 31) ≤ nI s
      rw [sh2 (by omega)] at cz12
      have kz12 : s < 2 ^ n := knle (a := 2 ^ n) (b := s) rfl rfl (by omega) (by omega) cz12
      refine And.intro ⟨by omega, Nat.le_of_ble_eq_true rfl, Nat.le_refl _, Nat.le_refl _⟩ ?_
      refine C41 (by omega) ?_
      refine And.intro (fun cz16 => ?_) (fun cz16 => ?_)
      · -- 16 taken: bi (fhQ (fun s => peP (mI m (a + 10)) np (noQ (mI m (x + 5)) (nI s) (gbQ (mI m (x + 1)) 8) np)) s = -nI 2 ∨ bcF (nI s) < bcF (fhQ (fun s => peP (mI m (a + 10)) np (noQ (mI m (x + 5)) (nI s) (gbQ (mI m (x + 1)) 8) np)) s)) = 0
        show Jj sc d 0 0 (mth 47) (pg P47 7).1 [some (.ref a), some (.ref x), some (.int (gbQ (mI m (x + 1)) 8)), some (.int (fhQ (fun s => peP (mI m (a + 10)) np (noQ (mI m (x + 5)) (nI s) (gbQ (mI m (x + 1)) 8) np)) s)), some (.int (nI s + nI 1))] [] m 0 0 Q
        rw [show nI s + nI 1 = nI (s + 1) from by simp only [nI_add, pk_mul]]
        have z := ih (s + 1) (by omega) (by omega)
        rw [fhQ_s] at z
        unfold fhS at z
        rw [if_neg (bi_eq0.mp cz16)] at z
        exact z
      · -- 16 not: ¬ bi (fhQ (fun s => peP (mI m (a + 10)) np (noQ (mI m (x + 5)) (nI s) (gbQ (mI m (x + 1)) 8) np)) s = -nI 2 ∨ bcF (nI s) < bcF (fhQ (fun s => peP (mI m (a + 10)) np (noQ (mI m (x + 5)) (nI s) (gbQ (mI m (x + 1)) 8) np)) s)) = 0
        refine And.intro ⟨by omega, Nat.le_of_ble_eq_true rfl, Nat.le_refl _, Nat.le_refl _⟩ ?_
        refine C48 (gs := nI s) (gr := gbQ (mI m (x + 1)) 8) hD hL hp hp8 (by omega) ?_
        refine And.intro ⟨by omega, Nat.le_of_ble_eq_true rfl, Nat.le_refl _, Nat.le_refl _⟩ ?_
        refine C45 (x := noQ (mI m (x + 5)) (nI s) (gbQ (mI m (x + 1)) 8) np) (by omega) hL hp hp8 ?_
        refine And.intro (fun cz24 => ?_) (fun cz24 => ?_)
        · -- 24 taken: ¬ bi (¬ peP (mI m (a + 10)) np (noQ (mI m (x + 5)) (nI s) (gbQ (mI m (x + 1)) 8) np)) = 0
          show Jj sc d 0 0 (mth 47) (pg P47 7).1 [some (.ref a), some (.ref x), some (.int (gbQ (mI m (x + 1)) 8)), some (.int (fhQ (fun s => peP (mI m (a + 10)) np (noQ (mI m (x + 5)) (nI s) (gbQ (mI m (x + 1)) 8) np)) s)), some (.int (nI s + nI 1))] [] m 0 0 Q
          rw [show nI s + nI 1 = nI (s + 1) from by simp only [nI_add, pk_mul]]
          have z := ih (s + 1) (by omega) (by omega)
          rw [fhQ_s] at z
          unfold fhS at z
          rw [if_pos (bi_ne0.mp cz16), if_pos (bi_eq0.mpr (bi_ne0.mp cz24))] at z
          exact z
        · -- 24 not: bi (¬ peP (mI m (a + 10)) np (noQ (mI m (x + 5)) (nI s) (gbQ (mI m (x + 1)) 8) np)) = 0
          show Jj sc d 0 0 (mth 47) (pg P47 7).1 [some (.ref a), some (.ref x), some (.int (gbQ (mI m (x + 1)) 8)), some (.int (nI s)), some (.int (nI s + nI 1))] [] m 0 0 Q
          rw [show nI s + nI 1 = nI (s + 1) from by simp only [nI_add, pk_mul]]
          have z := ih (s + 1) (by omega) (by omega)
          rw [fhQ_s] at z
          unfold fhS at z
          rw [if_pos (bi_ne0.mp cz16), if_neg (fun z => bi_eq0.mp cz24 (bi_eq0.mp z))] at z
          exact z
theorem C47 {d : Nat} {m : Mm} {Q : Option Value → Mm → Prop} {x : Nat} (hD : DW m.2.2 x) {a np : Nat} (hL : LW m.2.2 a) (hp : mI m (a + 1) 8 = nI np) (hp8 : np ≤ 8) {n : Nat} (hn : mI m (a + 1) 4 = nI n) (hn6 : n ≤ 6) (hd : 2 ≤ d) (hQ : Q (some (.int (fhQ (fun s => peP (mI m (a + 10)) np (noQ (mI m (x + 5)) (nI s) (gbQ (mI m (x + 1)) 8) np)) (2 ^ n)))) m) : Cc d 0 0 47 [.ref a, .ref x] m Q := by
  refine ent (n := 82) z47 (by decide) rfl (by decide) (Nat.le_of_ble_eq_true rfl) (fun sc => ?_)
  refine And.intro ⟨by omega, Nat.le_of_ble_eq_true rfl, Nat.le_refl _, Nat.le_refl _⟩ (And.intro (DWo_0 hD) ?_)
  refine C17 hD ?_
  show Jj sc d 0 0 (mth 47) (pg P47 7).1 [some (.ref a), some (.ref x), some (.int (gbQ (mI m (x + 1)) 8)), some (.int (-nI 2)), some (.int (nI 0))] [] m 0 0 Q
  have h2n := p2_6 hn6
  exact lq47 hD hL hp hp8 hn hn6 hd h2n hQ (2 ^ n + 1) 0 (Nat.zero_le _) (by omega)
theorem lq40a {sc : Nat × (Nat → Int32)} {d : Nat} {m : Mm} {Q : Option Value → Mm → Prop} {a w h nt n : Nat} {gr : Int32} (hd : 3 ≤ d) (hL : LW m.2.2 a) (hw : mI m a 0 = nI w) (hh : mI m a 1 = nI h) (hwh : w * h ≤ 24) (hnt : mI m (a + 1) 2 = nI nt) (hnt6 : nt ≤ 6) (hn : mI m (a + 1) 4 = nI n) (hn6 : n ≤ 6) {t s : Nat} (ht : t < nt) (hs : s < 5) (hon : bq gr (nI s)) (hQ : ∀ t s u, t < nt → s < 5 → u < 24 → bq gr (nI s) → hoF (mI m (a + 7)) t s (nI u) n = 0 → (∀ t1 s1 h1, t1 < nt → s1 < 5 → h1 < 24 → bq gr (nI s1) → (t1 < t ∨ t1 = t ∧ (s1 < s ∨ s1 = s ∧ h1 < u)) → ¬ hoF (mI m (a + 7)) t1 s1 (nI h1) n = 0) → Q (some (.int (nI 1000 * nI t + nI 100 * nI s + nI u))) m) (hN : (∀ t s u, t < nt → s < 5 → u < 24 → bq gr (nI s) → ¬ hoF (mI m (a + 7)) t s (nI u) n = 0) → Q (some (.int (-nI 2))) m) (hk : (∀ t1 s1 h1, t1 < nt → s1 < 5 → h1 < 24 → bq gr (nI s1) → (t1 < t ∨ t1 = t ∧ (s1 < (s + 1) ∨ s1 = (s + 1) ∧ h1 < 0)) → ¬ hoF (mI m (a + 7)) t1 s1 (nI h1) n = 0) → Jj sc d 0 0 (mth 40) (pg P40 11).1 [some (.ref a), some (.int gr), some (.int (nI t)), some (.int (nI (s + 1))), none] [] m 0 0 Q)  : ∀ (j h0 : Nat), h0 ≤ 24 → 24 + 1 ≤ h0 + j → (∀ t1 s1 h1, t1 < nt → s1 < 5 → h1 < 24 → bq gr (nI s1) → (t1 < t ∨ t1 = t ∧ (s1 < s ∨ s1 = s ∧ h1 < h0)) → ¬ hoF (mI m (a + 7)) t1 s1 (nI h1) n = 0) → Jj sc d 0 0 (mth 40) (pg P40 16).1 [some (.ref a), some (.int gr), some (.int (nI t)), some (.int (nI s)), some (.int (nI h0))] [] m 0 0 Q := by
  intro j
  induction j with
  | zero => intro h0 h1 h2 hall; omega
  | succ j ih =>
    intro h0 h1 h2 hall
    refine J_w z40 (i := 16) (by decide) 120 ?_
    refine And.intro (fun cz18 => ?_) (fun cz18 => ?_)
    · -- 18 taken: nI 24 ≤ nI h0
      have kz18 : 24 ≤ h0 := kle (a := 24) (b := h0) rfl rfl (by omega) (by omega) cz18
      show Jj sc d 0 0 (mth 40) (pg P40 11).1 [some (.ref a), some (.int gr), some (.int (nI t)), some (.int (nI s + nI 1)), some (.int (nI h0))] [] m 0 0 Q
      rw [show nI s + nI 1 = nI (s + 1) from by simp only [nI_add, pk_mul]]
      refine J_wk (L' := [some (.ref a), some (.int gr), some (.int (nI t)), some (.int (nI (s + 1))), none]) ⟨rfl, rfl, rfl, rfl, trivial⟩ ?_
      refine hk (fun t1 s1 h1 q1 q2 q3 q4 q5 => hall t1 s1 h1 q1 q2 q3 q4 (by omega))
    · -- 18 not: ¬ nI 24 ≤ nI h0
      have kz18 : h0 < 24 := knle (a := 24) (b := h0) rfl rfl (by omega) (by omega) cz18
      refine And.intro (fun cz25 => False.elim (cz25 hon)) (fun cz25 => ?_)
      refine And.intro ⟨by omega, Nat.le_of_ble_eq_true rfl, Nat.le_refl _, Nat.le_refl _⟩ (And.intro (LWo_0 hL) ?_)
      refine C32 (t := t) (s := s) (n := n) (by omega) hL (by omega) (by omega) hn hn6 ?_
      refine And.intro (fun cz31 => ?_) (fun cz31 => ?_)
      · -- 31 taken: ¬ hoF (mI m (a + 7)) t s (nI h0) n = 0
        show Jj sc d 0 0 (mth 40) (pg P40 16).1 [some (.ref a), some (.int gr), some (.int (nI t)), some (.int (nI s)), some (.int (nI h0 + nI 1))] [] m 0 0 Q
        rw [show nI h0 + nI 1 = nI (h0 + 1) from by simp only [nI_add, pk_mul]]
        refine ih (h0 + 1) (by omega) (by omega) (fun t1 s1 h1 q1 q2 q3 q4 q5 => ?_)
        by_cases ez9 : t1 = t ∧ s1 = s ∧ h1 = h0
        · obtain ⟨rfl, rfl, rfl⟩ := ez9
          exact cz31
        · exact hall t1 s1 h1 q1 q2 q3 q4 (by omega)
      · -- 31 not: hoF (mI m (a + 7)) t s (nI h0) n = 0
        refine And.intro ⟨rfl, trivial, Nat.le_refl _, Nat.le_refl _⟩ ?_
        exact hQ t s h0 ht hs (by omega) hon cz31 hall
theorem lq40z {sc : Nat × (Nat → Int32)} {d : Nat} {m : Mm} {Q : Option Value → Mm → Prop} {a w h nt n : Nat} {gr : Int32} (hd : 3 ≤ d) (hL : LW m.2.2 a) (hw : mI m a 0 = nI w) (hh : mI m a 1 = nI h) (hwh : w * h ≤ 24) (hnt : mI m (a + 1) 2 = nI nt) (hnt6 : nt ≤ 6) (hn : mI m (a + 1) 4 = nI n) (hn6 : n ≤ 6) {t s : Nat} (hoff : ¬ bq gr (nI s)) (hk : Jj sc d 0 0 (mth 40) (pg P40 11).1 [some (.ref a), some (.int gr), some (.int (nI t)), some (.int (nI (s + 1))), none] [] m 0 0 Q)  : Jj sc d 0 0 (mth 40) (pg P40 16).1 [some (.ref a), some (.int gr), some (.int (nI t)), some (.int (nI s)), some (.int (nI 0))] [] m 0 0 Q := by
  refine J_w z40 (i := 16) (by decide) 120 ?_
  refine And.intro (fun cz18 => False.elim (absurd cz18 (by decide))) (fun cz18 => ?_)
  refine And.intro (fun cz25 => ?_) (fun cz25 => False.elim (hoff cz25))
  show Jj sc d 0 0 (mth 40) (pg P40 11).1 [some (.ref a), some (.int gr), some (.int (nI t)), some (.int (nI s + nI 1)), some (.int (nI 0))] [] m 0 0 Q
  rw [show nI s + nI 1 = nI (s + 1) from by simp only [nI_add, pk_mul]]
  refine J_wk (L' := [some (.ref a), some (.int gr), some (.int (nI t)), some (.int (nI (s + 1))), none]) ⟨rfl, rfl, rfl, rfl, trivial⟩ ?_
  exact hk
theorem lq40b {sc : Nat × (Nat → Int32)} {d : Nat} {m : Mm} {Q : Option Value → Mm → Prop} {a w h nt n : Nat} {gr : Int32} (hd : 3 ≤ d) (hL : LW m.2.2 a) (hw : mI m a 0 = nI w) (hh : mI m a 1 = nI h) (hwh : w * h ≤ 24) (hnt : mI m (a + 1) 2 = nI nt) (hnt6 : nt ≤ 6) (hn : mI m (a + 1) 4 = nI n) (hn6 : n ≤ 6) {t : Nat} (ht : t < nt) (hQ : ∀ t s u, t < nt → s < 5 → u < 24 → bq gr (nI s) → hoF (mI m (a + 7)) t s (nI u) n = 0 → (∀ t1 s1 h1, t1 < nt → s1 < 5 → h1 < 24 → bq gr (nI s1) → (t1 < t ∨ t1 = t ∧ (s1 < s ∨ s1 = s ∧ h1 < u)) → ¬ hoF (mI m (a + 7)) t1 s1 (nI h1) n = 0) → Q (some (.int (nI 1000 * nI t + nI 100 * nI s + nI u))) m) (hN : (∀ t s u, t < nt → s < 5 → u < 24 → bq gr (nI s) → ¬ hoF (mI m (a + 7)) t s (nI u) n = 0) → Q (some (.int (-nI 2))) m) (hk : (∀ t1 s1 h1, t1 < nt → s1 < 5 → h1 < 24 → bq gr (nI s1) → (t1 < (t + 1) ∨ t1 = (t + 1) ∧ (s1 < 0 ∨ s1 = 0 ∧ h1 < 0)) → ¬ hoF (mI m (a + 7)) t1 s1 (nI h1) n = 0) → Jj sc d 0 0 (mth 40) (pg P40 5).1 [some (.ref a), some (.int gr), some (.int (nI (t + 1))), none, none] [] m 0 0 Q)  : ∀ (j s : Nat), s ≤ 5 → 5 + 1 ≤ s + j → (∀ t1 s1 h1, t1 < nt → s1 < 5 → h1 < 24 → bq gr (nI s1) → (t1 < t ∨ t1 = t ∧ (s1 < s ∨ s1 = s ∧ h1 < 0)) → ¬ hoF (mI m (a + 7)) t1 s1 (nI h1) n = 0) → Jj sc d 0 0 (mth 40) (pg P40 11).1 [some (.ref a), some (.int gr), some (.int (nI t)), some (.int (nI s)), none] [] m 0 0 Q := by
  intro j
  induction j with
  | zero => intro s h1 h2 hall; omega
  | succ j ih =>
    intro s h1 h2 hall
    refine J_w z40 (i := 11) (by decide) 120 ?_
    refine And.intro (fun cz13 => ?_) (fun cz13 => ?_)
    · -- 13 taken: nI 5 ≤ nI s
      have kz13 : 5 ≤ s := kle (a := 5) (b := s) rfl rfl (by omega) (by omega) cz13
      show Jj sc d 0 0 (mth 40) (pg P40 5).1 [some (.ref a), some (.int gr), some (.int (nI t + nI 1)), some (.int (nI s)), none] [] m 0 0 Q
      rw [show nI t + nI 1 = nI (t + 1) from by simp only [nI_add, pk_mul]]
      refine J_wk (L' := [some (.ref a), some (.int gr), some (.int (nI (t + 1))), none, none]) ⟨rfl, rfl, rfl, trivial⟩ ?_
      refine hk (fun t1 s1 h1 q1 q2 q3 q4 q5 => hall t1 s1 h1 q1 q2 q3 q4 (by omega))
    · -- 13 not: ¬ nI 5 ≤ nI s
      have kz13 : s < 5 := knle (a := 5) (b := s) rfl rfl (by omega) (by omega) cz13
      show Jj sc d 0 0 (mth 40) (pg P40 16).1 [some (.ref a), some (.int gr), some (.int (nI t)), some (.int (nI s)), some (.int (nI 0))] [] m 0 0 Q
      by_cases hon : bq gr (nI s)
      · exact lq40a hd hL hw hh hwh hnt hnt6 hn hn6 ht (by omega) hon hQ hN (fun h9 => ih (s + 1) (by omega) (by omega) h9) 25 0 (by decide) (by decide) hall
      · refine lq40z hd hL hw hh hwh hnt hnt6 hn hn6 hon (ih (s + 1) (by omega) (by omega) (fun t1 s1 h1 q1 q2 q3 q4 q5 => ?_))
        by_cases ez9 : s1 = s
        · exact absurd (ez9 ▸ q4) hon
        · exact hall t1 s1 h1 q1 q2 q3 q4 (by omega)
theorem lq40c {sc : Nat × (Nat → Int32)} {d : Nat} {m : Mm} {Q : Option Value → Mm → Prop} {a w h nt n : Nat} {gr : Int32} (hd : 3 ≤ d) (hL : LW m.2.2 a) (hw : mI m a 0 = nI w) (hh : mI m a 1 = nI h) (hwh : w * h ≤ 24) (hnt : mI m (a + 1) 2 = nI nt) (hnt6 : nt ≤ 6) (hn : mI m (a + 1) 4 = nI n) (hn6 : n ≤ 6) (hQ : ∀ t s u, t < nt → s < 5 → u < 24 → bq gr (nI s) → hoF (mI m (a + 7)) t s (nI u) n = 0 → (∀ t1 s1 h1, t1 < nt → s1 < 5 → h1 < 24 → bq gr (nI s1) → (t1 < t ∨ t1 = t ∧ (s1 < s ∨ s1 = s ∧ h1 < u)) → ¬ hoF (mI m (a + 7)) t1 s1 (nI h1) n = 0) → Q (some (.int (nI 1000 * nI t + nI 100 * nI s + nI u))) m) (hN : (∀ t s u, t < nt → s < 5 → u < 24 → bq gr (nI s) → ¬ hoF (mI m (a + 7)) t s (nI u) n = 0) → Q (some (.int (-nI 2))) m)  : ∀ (j t : Nat), t ≤ nt → nt + 1 ≤ t + j → (∀ t1 s1 h1, t1 < nt → s1 < 5 → h1 < 24 → bq gr (nI s1) → (t1 < t ∨ t1 = t ∧ (s1 < 0 ∨ s1 = 0 ∧ h1 < 0)) → ¬ hoF (mI m (a + 7)) t1 s1 (nI h1) n = 0) → Jj sc d 0 0 (mth 40) (pg P40 5).1 [some (.ref a), some (.int gr), some (.int (nI t)), none, none] [] m 0 0 Q := by
  intro j
  induction j with
  | zero => intro t h1 h2 hall; omega
  | succ j ih =>
    intro t h1 h2 hall
    refine J_w z40 (i := 5) (by decide) 120 ?_
    refine And.intro ⟨by omega, Nat.le_of_ble_eq_true rfl, Nat.le_refl _, Nat.le_refl _⟩ (And.intro (LWo_0 hL) ?_)
    refine C22 hL ?_
    rw [hnt]
    refine And.intro (fun cz8 => ?_) (fun cz8 => ?_)
    · -- 8 taken: nI nt ≤ nI t
      have kz8 : nt ≤ t := kle (a := nt) (b := t) rfl rfl (by omega) (by omega) cz8
      refine And.intro ⟨rfl, trivial, Nat.le_refl _, Nat.le_refl _⟩ ?_
      exact hN (fun t1 s1 h1 q1 q2 q3 q4 => hall t1 s1 h1 q1 q2 q3 q4 (by omega))
    · -- 8 not: ¬ nI nt ≤ nI t
      have kz8 : t < nt := knle (a := nt) (b := t) rfl rfl (by omega) (by omega) cz8
      show Jj sc d 0 0 (mth 40) (pg P40 11).1 [some (.ref a), some (.int gr), some (.int (nI t)), some (.int (nI 0)), none] [] m 0 0 Q
      exact lq40b hd hL hw hh hwh hnt hnt6 hn hn6 (by omega) hQ hN (fun h9 => ih (t + 1) (by omega) (by omega) h9) 6 0 (by decide) (by decide) hall
theorem C40 {d : Nat} {m : Mm} {Q : Option Value → Mm → Prop} {a w h nt n : Nat} (hd : 3 ≤ d) (hL : LW m.2.2 a) (hw : mI m a 0 = nI w) (hh : mI m a 1 = nI h) (hwh : w * h ≤ 24) (hnt : mI m (a + 1) 2 = nI nt) (hnt6 : nt ≤ 6) (hn : mI m (a + 1) 4 = nI n) (hn6 : n ≤ 6) (hQ : ∀ t s u, t < nt → s < 5 → u < 24 → bq (grF (mI m (a + 2)) (w * h)) (nI s) → hoF (mI m (a + 7)) t s (nI u) n = 0 → (∀ t1 s1 h1, t1 < nt → s1 < 5 → h1 < 24 → bq (grF (mI m (a + 2)) (w * h)) (nI s1) → (t1 < t ∨ t1 = t ∧ (s1 < s ∨ s1 = s ∧ h1 < u)) → ¬ hoF (mI m (a + 7)) t1 s1 (nI h1) n = 0) → Q (some (.int (nI 1000 * nI t + nI 100 * nI s + nI u))) m) (hN : (∀ t s u, t < nt → s < 5 → u < 24 → bq (grF (mI m (a + 2)) (w * h)) (nI s) → ¬ hoF (mI m (a + 7)) t s (nI u) n = 0) → Q (some (.int (-nI 2))) m)  : Cc d 0 0 40 [.ref a] m Q := by
  refine ent (n := 120) z40 (by decide) rfl (by decide) (Nat.le_of_ble_eq_true rfl) (fun sc => ?_)
  refine And.intro ⟨by omega, Nat.le_of_ble_eq_true rfl, Nat.le_refl _, Nat.le_refl _⟩ (And.intro (LWo_0 hL) ?_)
  refine C28 hL hw hh hwh ?_
  show Jj sc d 0 0 (mth 40) (pg P40 5).1 [some (.ref a), some (.int (grF (mI m (a + 2)) (w * h))), some (.int (nI 0)), none, none] [] m 0 0 Q
  exact lq40c (gr := grF (mI m (a + 2)) (w * h)) hd hL hw hh hwh hnt hnt6 hn hn6 hQ hN (nt + 1) 0 (Nat.zero_le _) (by omega) (fun _ _ _ _ _ _ _ h => absurd h (by omega))
