theorem lhv_a {sc : Nat × (Nat → Int32)} {d : Nat} {m : Mm} {Q : Option Value → Mm → Prop} {q n nt : Nat} (hd : 2 ≤ d) (hW : Wd m.2.2) (hN : NW m.2.2 q) (h158 : 158 ≤ q) (hq : va_rf (mR m 142 3) = .ref q) (hn : mI m q 6 = nI n) (hn6 : n ≤ 6) (hnt : mI m q 5 = nI nt) (hnt6 : nt ≤ 6) {b : Int32} (hQ : Q (some (.int (bi (∀ t1, t1 < nt → ∀ s1, s1 < 5 → bq (mI m q 4) (nI s1) → wsF (mI m (q + 7)) b t1 s1 n = whF (mI m (q + 7)) t1 s1 n)))) m) {t s : Nat} (ht : t < nt) (hs : s < 5) (hon : bq (mI m q 4) (nI s)) (hk : wsF (mI m (q + 7)) b t s n = whF (mI m (q + 7)) t s n → Jj sc d 0 0 (mth 297) (pg P297 9).1 [some (.ref 142), some (.int b), some (.int (nI t)), some (.int (nI (s + 1))), none, none, none] [] m 0 0 Q)  : ∀ (j g : Nat), g ≤ n → n + 1 ≤ g + j → Jj sc d 0 0 (mth 297) (pg P297 23).1 [some (.ref 142), some (.int b), some (.int (nI t)), some (.int (nI s)), some (.int (whF (mI m (q + 7)) t s g)), some (.int (wsF (mI m (q + 7)) b t s g)), some (.int (nI g))] [] m 0 0 Q := by
  intro j
  induction j with
  | zero => intro g h1 h2; omega
  | succ j ih =>
    intro g h1 h2
    refine J_w z297 (i := 23) (by decide) 150 ?_
    refine And.intro (Wdo_142 hW) (Exists.intro _ (And.intro hq ?_))
    refine And.intro (NWo_0 hN) ?_
    rw [hn]
    refine And.intro (fun cz27 => ?_) (fun cz27 => ?_)
    · -- 27 taken: nI n ≤ nI g
      have kz27 : n ≤ g := kle (a := n) (b := g) rfl rfl (by omega) (by omega) cz27
      refine And.intro (fun cz56 => ?_) (fun cz56 => ?_)
      · -- 56 taken: wsF (mI m (q + 7)) b t s g = whF (mI m (q + 7)) t s g
        show Jj sc d 0 0 (mth 297) (pg P297 9).1 [some (.ref 142), some (.int b), some (.int (nI t)), some (.int (nI s + nI 1)), some (.int (whF (mI m (q + 7)) t s g)), some (.int (wsF (mI m (q + 7)) b t s g)), some (.int (nI g))] [] m 0 0 Q
        rw [show nI s + nI 1 = nI (s + 1) from by simp only [nI_add, pk_mul]]
        refine J_wk (L' := [some (.ref 142), some (.int b), some (.int (nI t)), some (.int (nI (s + 1))), none, none, none]) ⟨rfl, rfl, rfl, rfl, trivial⟩ ?_
        rw [show g = n by omega] at cz56
        exact hk cz56
      · -- 56 not: ¬ wsF (mI m (q + 7)) b t s g = whF (mI m (q + 7)) t s g
        refine And.intro ⟨rfl, Or.inl rfl, Nat.le_refl _, Nat.le_refl _⟩ ?_
        rw [show g = n by omega] at cz56
        rw [bi_f (fun z => cz56 (z t ht s hs hon))] at hQ
        exact hQ
    · -- 27 not: ¬ nI n ≤ nI g
      have kz27 : g < n := knle (a := n) (b := g) rfl rfl (by omega) (by omega) cz27
      refine And.intro (Wdo_142 hW) (Exists.intro _ (And.intro hq ?_))
      refine And.intro ⟨by omega, Nat.le_of_ble_eq_true rfl, Nat.le_refl _, Nat.le_refl _⟩ (And.intro (NWo_0 hN) ?_)
      refine C197 (g := g) (t := t) (s := s) hN (by omega) (by omega) (by omega) ?_
      refine And.intro ⟨by omega, Nat.le_of_ble_eq_true rfl, Nat.le_refl _, Nat.le_refl _⟩ ?_
      refine C205 ?_
      refine And.intro (fun cz41 => ?_) (fun cz41 => ?_)
      · -- 41 taken: bi (bq b (nI g)) = 0
        show Jj sc d 0 0 (mth 297) (pg P297 23).1 [some (.ref 142), some (.int b), some (.int (nI t)), some (.int (nI s)), some (.int ((whF (mI m (q + 7)) t s g) ||| (mI m (q + 7) ((g * 6 + t) * 5 + s)))), some (.int ((wsF (mI m (q + 7)) b t s g) ||| nI 0)), some (.int (nI g + nI 1))] [] m 0 0 Q
        rw [show nI g + nI 1 = nI (g + 1) from by simp only [nI_add, pk_mul]]
        have w9 := ih (g + 1) (by omega) (by omega)
        rw [show whF (mI m (q + 7)) t s (g + 1) = _ from fo_s, show wsF (mI m (q + 7)) b t s (g + 1) = _ from fo_s] at w9
        rw [if_neg (bi_eq0.mp cz41)] at w9
        rw [or_z]
        exact w9
      · -- 41 not: ¬ bi (bq b (nI g)) = 0
        refine And.intro (Wdo_142 hW) (Exists.intro _ (And.intro hq ?_))
        refine And.intro ⟨by omega, Nat.le_of_ble_eq_true rfl, Nat.le_refl _, Nat.le_refl _⟩ (And.intro (NWo_0 hN) ?_)
        refine C197 (g := g) (t := t) (s := s) hN (by omega) (by omega) (by omega) ?_
        show Jj sc d 0 0 (mth 297) (pg P297 23).1 [some (.ref 142), some (.int b), some (.int (nI t)), some (.int (nI s)), some (.int ((whF (mI m (q + 7)) t s g) ||| (mI m (q + 7) ((g * 6 + t) * 5 + s)))), some (.int ((wsF (mI m (q + 7)) b t s g) ||| (mI m (q + 7) ((g * 6 + t) * 5 + s)))), some (.int (nI g + nI 1))] [] m 0 0 Q
        rw [show nI g + nI 1 = nI (g + 1) from by simp only [nI_add, pk_mul]]
        have w9 := ih (g + 1) (by omega) (by omega)
        rw [show whF (mI m (q + 7)) t s (g + 1) = _ from fo_s, show wsF (mI m (q + 7)) b t s (g + 1) = _ from fo_s] at w9
        rw [if_pos (bi_ne0.mp cz41)] at w9
        exact w9
theorem lhv_b {sc : Nat × (Nat → Int32)} {d : Nat} {m : Mm} {Q : Option Value → Mm → Prop} {q n nt : Nat} (hd : 2 ≤ d) (hW : Wd m.2.2) (hN : NW m.2.2 q) (h158 : 158 ≤ q) (hq : va_rf (mR m 142 3) = .ref q) (hn : mI m q 6 = nI n) (hn6 : n ≤ 6) (hnt : mI m q 5 = nI nt) (hnt6 : nt ≤ 6) {b : Int32} (hQ : Q (some (.int (bi (∀ t1, t1 < nt → ∀ s1, s1 < 5 → bq (mI m q 4) (nI s1) → wsF (mI m (q + 7)) b t1 s1 n = whF (mI m (q + 7)) t1 s1 n)))) m) {t : Nat} (ht : t < nt) (hk : (∀ s1, s1 < 5 → bq (mI m q 4) (nI s1) → wsF (mI m (q + 7)) b t s1 n = whF (mI m (q + 7)) t s1 n) → Jj sc d 0 0 (mth 297) (pg P297 2).1 [some (.ref 142), some (.int b), some (.int (nI (t + 1))), none, none, none, none] [] m 0 0 Q)  : ∀ (j s : Nat), s ≤ 5 → 5 + 1 ≤ s + j → (∀ s1, s1 < s → bq (mI m q 4) (nI s1) → wsF (mI m (q + 7)) b t s1 n = whF (mI m (q + 7)) t s1 n) → Jj sc d 0 0 (mth 297) (pg P297 9).1 [some (.ref 142), some (.int b), some (.int (nI t)), some (.int (nI s)), none, none, none] [] m 0 0 Q := by
  intro j
  induction j with
  | zero => intro s h1 h2 hall; omega
  | succ j ih =>
    intro s h1 h2 hall
    refine J_w z297 (i := 9) (by decide) 150 ?_
    refine And.intro (fun cz11 => ?_) (fun cz11 => ?_)
    · -- 11 taken: nI 5 ≤ nI s
      have kz11 : 5 ≤ s := kle (a := 5) (b := s) rfl rfl (by omega) (by omega) cz11
      show Jj sc d 0 0 (mth 297) (pg P297 2).1 [some (.ref 142), some (.int b), some (.int (nI t + nI 1)), some (.int (nI s)), none, none, none] [] m 0 0 Q
      rw [show nI t + nI 1 = nI (t + 1) from by simp only [nI_add, pk_mul]]
      refine J_wk (L' := [some (.ref 142), some (.int b), some (.int (nI (t + 1))), none, none, none, none]) ⟨rfl, rfl, rfl, trivial⟩ ?_
      rw [show s = 5 by omega] at hall
      exact hk hall
    · -- 11 not: ¬ nI 5 ≤ nI s
      have kz11 : s < 5 := knle (a := 5) (b := s) rfl rfl (by omega) (by omega) cz11
      refine And.intro ⟨by omega, Nat.le_of_ble_eq_true rfl, Nat.le_refl _, Nat.le_refl _⟩ (And.intro (Wdo_142 hW) ?_)
      refine C260 hW hN hq (by omega) ?_
      refine And.intro (fun cz15 => ?_) (fun cz15 => ?_)
      · -- 15 taken: ¬ bi (bq (mI m q 4) (nI s)) = 0
        show Jj sc d 0 0 (mth 297) (pg P297 23).1 [some (.ref 142), some (.int b), some (.int (nI t)), some (.int (nI s)), some (.int (nI 0)), some (.int (nI 0)), some (.int (nI 0))] [] m 0 0 Q
        refine lhv_a (by omega) hW hN h158 hq hn hn6 hnt hnt6 hQ ht kz11 (bi_ne0.mp cz15) (fun he => ?_) (n + 1) 0 (Nat.zero_le _) (by omega)
        have hall2 : ∀ s1, s1 < s + 1 → bq (mI m q 4) (nI s1) → wsF (mI m (q + 7)) b t s1 n = whF (mI m (q + 7)) t s1 n := by
          intro v9 h9
          rcases Nat.lt_or_ge v9 s with q9 | q9
          · exact hall v9 q9
          · have ez9 : v9 = s := by omega
            rw [ez9]
            exact fun _ => he
        exact ih (s + 1) (by omega) (by omega) hall2
      · -- 15 not: bi (bq (mI m q 4) (nI s)) = 0
        show Jj sc d 0 0 (mth 297) (pg P297 9).1 [some (.ref 142), some (.int b), some (.int (nI t)), some (.int (nI s + nI 1)), none, none, none] [] m 0 0 Q
        rw [show nI s + nI 1 = nI (s + 1) from by simp only [nI_add, pk_mul]]
        have hall2 : ∀ s1, s1 < s + 1 → bq (mI m q 4) (nI s1) → wsF (mI m (q + 7)) b t s1 n = whF (mI m (q + 7)) t s1 n := by
          intro v9 h9
          rcases Nat.lt_or_ge v9 s with q9 | q9
          · exact hall v9 q9
          · have ez9 : v9 = s := by omega
            rw [ez9]
            exact fun z => absurd z (bi_eq0.mp cz15)
        exact ih (s + 1) (by omega) (by omega) hall2
theorem lhv_c {sc : Nat × (Nat → Int32)} {d : Nat} {m : Mm} {Q : Option Value → Mm → Prop} {q n nt : Nat} (hd : 2 ≤ d) (hW : Wd m.2.2) (hN : NW m.2.2 q) (h158 : 158 ≤ q) (hq : va_rf (mR m 142 3) = .ref q) (hn : mI m q 6 = nI n) (hn6 : n ≤ 6) (hnt : mI m q 5 = nI nt) (hnt6 : nt ≤ 6) {b : Int32} (hQ : Q (some (.int (bi (∀ t1, t1 < nt → ∀ s1, s1 < 5 → bq (mI m q 4) (nI s1) → wsF (mI m (q + 7)) b t1 s1 n = whF (mI m (q + 7)) t1 s1 n)))) m)  : ∀ (j t : Nat), t ≤ nt → nt + 1 ≤ t + j → (∀ t1, t1 < t → ∀ s1, s1 < 5 → bq (mI m q 4) (nI s1) → wsF (mI m (q + 7)) b t1 s1 n = whF (mI m (q + 7)) t1 s1 n) → Jj sc d 0 0 (mth 297) (pg P297 2).1 [some (.ref 142), some (.int b), some (.int (nI t)), none, none, none, none] [] m 0 0 Q := by
  intro j
  induction j with
  | zero => intro t h1 h2 hall; omega
  | succ j ih =>
    intro t h1 h2 hall
    refine J_w z297 (i := 2) (by decide) 150 ?_
    refine And.intro (Wdo_142 hW) (Exists.intro _ (And.intro hq ?_))
    refine And.intro (NWo_0 hN) ?_
    rw [hnt]
    refine And.intro (fun cz6 => ?_) (fun cz6 => ?_)
    · -- 6 taken: nI nt ≤ nI t
      have kz6 : nt ≤ t := kle (a := nt) (b := t) rfl rfl (by omega) (by omega) cz6
      refine And.intro ⟨rfl, Or.inr rfl, Nat.le_refl _, Nat.le_refl _⟩ ?_
      rw [show t = nt by omega] at hall
      rw [bi_t hall] at hQ
      exact hQ
    · -- 6 not: ¬ nI nt ≤ nI t
      have kz6 : t < nt := knle (a := nt) (b := t) rfl rfl (by omega) (by omega) cz6
      show Jj sc d 0 0 (mth 297) (pg P297 9).1 [some (.ref 142), some (.int b), some (.int (nI t)), some (.int (nI 0)), none, none, none] [] m 0 0 Q
      refine lhv_b (by omega) hW hN h158 hq hn hn6 hnt hnt6 hQ kz6 (fun hin => ?_) 6 0 (by decide) (by decide) (fun _ h => absurd h (by omega))
      have hall2 : ∀ t1, t1 < t + 1 → ∀ s1, s1 < 5 → bq (mI m q 4) (nI s1) → wsF (mI m (q + 7)) b t1 s1 n = whF (mI m (q + 7)) t1 s1 n := by
        intro v9 h9
        rcases Nat.lt_or_ge v9 t with q9 | q9
        · exact hall v9 q9
        · have ez9 : v9 = t := by omega
          rw [ez9]
          exact hin
      exact ih (t + 1) (by omega) (by omega) hall2
theorem C297 {d : Nat} {m : Mm} {Q : Option Value → Mm → Prop} {q n nt : Nat} (hd : 2 ≤ d) (hW : Wd m.2.2) (hN : NW m.2.2 q) (h158 : 158 ≤ q) (hq : va_rf (mR m 142 3) = .ref q) (hn : mI m q 6 = nI n) (hn6 : n ≤ 6) (hnt : mI m q 5 = nI nt) (hnt6 : nt ≤ 6) {b : Int32} (hQ : Q (some (.int (bi (∀ t1, t1 < nt → ∀ s1, s1 < 5 → bq (mI m q 4) (nI s1) → wsF (mI m (q + 7)) b t1 s1 n = whF (mI m (q + 7)) t1 s1 n)))) m) : Cc d 0 0 297 [.ref 142, .int b] m Q := by
  refine ent (n := 150) z297 (by decide) rfl (by decide) (Nat.le_of_ble_eq_true rfl) (fun sc => ?_)
  show Jj sc d 0 0 (mth 297) (pg P297 2).1 [some (.ref 142), some (.int b), some (.int (nI 0)), none, none, none, none] [] m 0 0 Q
  exact lhv_c (by omega) hW hN h158 hq hn hn6 hnt hnt6 hQ (nt + 1) 0 (Nat.zero_le _) (by omega) (fun _ h => absurd h (by omega))
theorem lsr_a {sc : Nat × (Nat → Int32)} {d : Nat} {m : Mm} {Q : Option Value → Mm → Prop} {q n nt : Nat} (hd : 3 ≤ d) (hW : Wd m.2.2) (hN : NW m.2.2 q) (h158 : 158 ≤ q) (hq : va_rf (mR m 142 3) = .ref q) (hn : mI m q 6 = nI n) (hn6 : n ≤ 6) (hnt : mI m q 5 = nI nt) (hnt6 : nt ≤ 6) {b : Int32} (hQ : Q (some (.int (bi (¬ ∀ a1, a1 < n → ∀ b1, b1 < a1 → ¬ (bq b (nI a1) ∧ bq b (nI b1) ∧ 0 < heF (mI m (q + 7)) a1 b1 (mI m q 4) nt))))) m) {x : Nat} (hx : x < n) (hk : (∀ b1, b1 < x → ¬ (bq b (nI x) ∧ bq b (nI b1) ∧ 0 < heF (mI m (q + 7)) x b1 (mI m q 4) nt)) → Jj sc d 0 0 (mth 298) (pg P298 2).1 [some (.ref 142), some (.int b), some (.int (nI (x + 1))), none] [] m 0 0 Q)  : ∀ (j y : Nat), y ≤ x → x + 1 ≤ y + j → (∀ b1, b1 < y → ¬ (bq b (nI x) ∧ bq b (nI b1) ∧ 0 < heF (mI m (q + 7)) x b1 (mI m q 4) nt)) → Jj sc d 0 0 (mth 298) (pg P298 9).1 [some (.ref 142), some (.int b), some (.int (nI x)), some (.int (nI y))] [] m 0 0 Q := by
  intro j
  induction j with
  | zero => intro y h1 h2 hall; omega
  | succ j ih =>
    intro y h1 h2 hall
    refine J_w z298 (i := 9) (by decide) 86 ?_
    refine And.intro (fun cz11 => ?_) (fun cz11 => ?_)
    · -- 11 taken: nI x ≤ nI y
      have kz11 : x ≤ y := kle (a := x) (b := y) rfl rfl (by omega) (by omega) cz11
      show Jj sc d 0 0 (mth 298) (pg P298 2).1 [some (.ref 142), some (.int b), some (.int (nI x + nI 1)), some (.int (nI y))] [] m 0 0 Q
      rw [show nI x + nI 1 = nI (x + 1) from by simp only [nI_add, pk_mul]]
      refine J_wk (L' := [some (.ref 142), some (.int b), some (.int (nI (x + 1))), none]) ⟨rfl, rfl, rfl, trivial⟩ ?_
      rw [show y = x by omega] at hall
      exact hk hall
    · -- 11 not: ¬ nI x ≤ nI y
      have kz11 : y < x := knle (a := x) (b := y) rfl rfl (by omega) (by omega) cz11
      refine And.intro ⟨by omega, Nat.le_of_ble_eq_true rfl, Nat.le_refl _, Nat.le_refl _⟩ ?_
      refine C205 ?_
      refine And.intro (fun cz15 => ?_) (fun cz15 => ?_)
      · -- 15 taken: bi (bq b (nI x)) = 0
        show Jj sc d 0 0 (mth 298) (pg P298 9).1 [some (.ref 142), some (.int b), some (.int (nI x)), some (.int (nI y + nI 1))] [] m 0 0 Q
        rw [show nI y + nI 1 = nI (y + 1) from by simp only [nI_add, pk_mul]]
        have hall2 : ∀ b1, b1 < y + 1 → ¬ (bq b (nI x) ∧ bq b (nI b1) ∧ 0 < heF (mI m (q + 7)) x b1 (mI m q 4) nt) := by
          intro v9 h9
          rcases Nat.lt_or_ge v9 y with q9 | q9
          · exact hall v9 q9
          · have ez9 : v9 = y := by omega
            rw [ez9]
            exact fun z => bi_eq0.mp cz15 z.1
        exact ih (y + 1) (by omega) (by omega) hall2
      · -- 15 not: ¬ bi (bq b (nI x)) = 0
        refine And.intro ⟨by omega, Nat.le_of_ble_eq_true rfl, Nat.le_refl _, Nat.le_refl _⟩ ?_
        refine C205 ?_
        refine And.intro (fun cz19 => ?_) (fun cz19 => ?_)
        · -- 19 taken: bi (bq b (nI y)) = 0
          show Jj sc d 0 0 (mth 298) (pg P298 9).1 [some (.ref 142), some (.int b), some (.int (nI x)), some (.int (nI y + nI 1))] [] m 0 0 Q
          rw [show nI y + nI 1 = nI (y + 1) from by simp only [nI_add, pk_mul]]
          have hall2 : ∀ b1, b1 < y + 1 → ¬ (bq b (nI x) ∧ bq b (nI b1) ∧ 0 < heF (mI m (q + 7)) x b1 (mI m q 4) nt) := by
            intro v9 h9
            rcases Nat.lt_or_ge v9 y with q9 | q9
            · exact hall v9 q9
            · have ez9 : v9 = y := by omega
              rw [ez9]
              exact fun z => bi_eq0.mp cz19 z.2.1
          exact ih (y + 1) (by omega) (by omega) hall2
        · -- 19 not: ¬ bi (bq b (nI y)) = 0
          refine And.intro ⟨by omega, Nat.le_of_ble_eq_true rfl, Nat.le_refl _, Nat.le_refl _⟩ (And.intro (Wdo_142 hW) ?_)
          refine C267 (g := x) (g2 := y) (by omega) hW hN h158 hq hn hn6 hnt hnt6 (by omega) (by omega) ?_
          refine And.intro (fun cz24 => ?_) (fun cz24 => ?_)
          · -- 24 taken: heF (mI m (q + 7)) x y (mI m q 4) nt ≤ 0
            show Jj sc d 0 0 (mth 298) (pg P298 9).1 [some (.ref 142), some (.int b), some (.int (nI x)), some (.int (nI y + nI 1))] [] m 0 0 Q
            rw [show nI y + nI 1 = nI (y + 1) from by simp only [nI_add, pk_mul]]
            have hall2 : ∀ b1, b1 < y + 1 → ¬ (bq b (nI x) ∧ bq b (nI b1) ∧ 0 < heF (mI m (q + 7)) x b1 (mI m q 4) nt) := by
              intro v9 h9
              rcases Nat.lt_or_ge v9 y with q9 | q9
              · exact hall v9 q9
              · have ez9 : v9 = y := by omega
                rw [ez9]
                exact fun z => absurd z.2.2 (Int32.not_lt.mpr cz24)
            exact ih (y + 1) (by omega) (by omega) hall2
          · -- 24 not: ¬ heF (mI m (q + 7)) x y (mI m q 4) nt ≤ 0
            refine And.intro ⟨rfl, Or.inr rfl, Nat.le_refl _, Nat.le_refl _⟩ ?_
            rw [bi_t (fun z => z x hx y (by omega) ⟨bi_ne0.mp cz15, bi_ne0.mp cz19, Int32.not_le.mp cz24⟩)] at hQ
            exact hQ
theorem lsr_b {sc : Nat × (Nat → Int32)} {d : Nat} {m : Mm} {Q : Option Value → Mm → Prop} {q n nt : Nat} (hd : 3 ≤ d) (hW : Wd m.2.2) (hN : NW m.2.2 q) (h158 : 158 ≤ q) (hq : va_rf (mR m 142 3) = .ref q) (hn : mI m q 6 = nI n) (hn6 : n ≤ 6) (hnt : mI m q 5 = nI nt) (hnt6 : nt ≤ 6) {b : Int32} (hQ : Q (some (.int (bi (¬ ∀ a1, a1 < n → ∀ b1, b1 < a1 → ¬ (bq b (nI a1) ∧ bq b (nI b1) ∧ 0 < heF (mI m (q + 7)) a1 b1 (mI m q 4) nt))))) m)  : ∀ (j x : Nat), x ≤ n → n + 1 ≤ x + j → (∀ a1, a1 < x → ∀ b1, b1 < a1 → ¬ (bq b (nI a1) ∧ bq b (nI b1) ∧ 0 < heF (mI m (q + 7)) a1 b1 (mI m q 4) nt)) → Jj sc d 0 0 (mth 298) (pg P298 2).1 [some (.ref 142), some (.int b), some (.int (nI x)), none] [] m 0 0 Q := by
  intro j
  induction j with
  | zero => intro x h1 h2 hall; omega
  | succ j ih =>
    intro x h1 h2 hall
    refine J_w z298 (i := 2) (by decide) 86 ?_
    refine And.intro (Wdo_142 hW) (Exists.intro _ (And.intro hq ?_))
    refine And.intro (NWo_0 hN) ?_
    rw [hn]
    refine And.intro (fun cz6 => ?_) (fun cz6 => ?_)
    · -- 6 taken: nI n ≤ nI x
      have kz6 : n ≤ x := kle (a := n) (b := x) rfl rfl (by omega) (by omega) cz6
      refine And.intro ⟨rfl, Or.inl rfl, Nat.le_refl _, Nat.le_refl _⟩ ?_
      rw [show x = n by omega] at hall
      rw [bi_f (fun z => z hall)] at hQ
      exact hQ
    · -- 6 not: ¬ nI n ≤ nI x
      have kz6 : x < n := knle (a := n) (b := x) rfl rfl (by omega) (by omega) cz6
      show Jj sc d 0 0 (mth 298) (pg P298 9).1 [some (.ref 142), some (.int b), some (.int (nI x)), some (.int (nI 0))] [] m 0 0 Q
      refine lsr_a (by omega) hW hN h158 hq hn hn6 hnt hnt6 hQ kz6 (fun hin => ?_) (x + 1) 0 (Nat.zero_le _) (by omega) (fun _ h => absurd h (by omega))
      have hall2 : ∀ a1, a1 < x + 1 → ∀ b1, b1 < a1 → ¬ (bq b (nI a1) ∧ bq b (nI b1) ∧ 0 < heF (mI m (q + 7)) a1 b1 (mI m q 4) nt) := by
        intro v9 h9
        rcases Nat.lt_or_ge v9 x with q9 | q9
        · exact hall v9 q9
        · have ez9 : v9 = x := by omega
          rw [ez9]
          exact hin
      exact ih (x + 1) (by omega) (by omega) hall2
theorem C298 {d : Nat} {m : Mm} {Q : Option Value → Mm → Prop} {q n nt : Nat} (hd : 3 ≤ d) (hW : Wd m.2.2) (hN : NW m.2.2 q) (h158 : 158 ≤ q) (hq : va_rf (mR m 142 3) = .ref q) (hn : mI m q 6 = nI n) (hn6 : n ≤ 6) (hnt : mI m q 5 = nI nt) (hnt6 : nt ≤ 6) {b : Int32} (hQ : Q (some (.int (bi (¬ ∀ a1, a1 < n → ∀ b1, b1 < a1 → ¬ (bq b (nI a1) ∧ bq b (nI b1) ∧ 0 < heF (mI m (q + 7)) a1 b1 (mI m q 4) nt))))) m)  : Cc d 0 0 298 [.ref 142, .int b] m Q := by
  refine ent (n := 86) z298 (by decide) rfl (by decide) (Nat.le_of_ble_eq_true rfl) (fun sc => ?_)
  show Jj sc d 0 0 (mth 298) (pg P298 2).1 [some (.ref 142), some (.int b), some (.int (nI 0)), none] [] m 0 0 Q
  exact lsr_b (by omega) hW hN h158 hq hn hn6 hnt hnt6 hQ (n + 1) 0 (Nat.zero_le _) (by omega) (fun _ h => absurd h (by omega))
