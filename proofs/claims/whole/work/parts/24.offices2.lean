theorem lp43a {sc : Nat × (Nat → Int32)} {d : Nat} {m : Mm} {Q : Option Value → Mm → Prop} {a w h nt n : Nat} (hd : 4 ≤ d) (hL : LW m.2.2 a) (hw : mI m a 0 = nI w) (hh : mI m a 1 = nI h) (hwh : w * h ≤ 24) (hnt : mI m (a + 1) 2 = nI nt) (hnt6 : nt ≤ 6) (hn : mI m (a + 1) 4 = nI n) (hn6 : n ≤ 6) {b p gr : Int32} {t : Nat} (ht : t < nt) (hQ : Q (some (.int (bi (∀ t1, t1 < nt → ∀ s1, s1 < 5 → bq gr (nI s1) → haP (mI m (a + 7)) b p t1 s1 n)))) m) (hk : (∀ s1, s1 < 5 → bq gr (nI s1) → haP (mI m (a + 7)) b p t s1 n) → Jj sc d 0 0 (mth 43) (pg P43 5).1 [some (.ref a), some (.int b), some (.int p), some (.int gr), some (.int (nI (t + 1))), none] [] m 0 0 Q)  : ∀ (j s : Nat), s ≤ 5 → 5 + 1 ≤ s + j → (∀ s1, s1 < s → bq gr (nI s1) → haP (mI m (a + 7)) b p t s1 n) → Jj sc d 0 0 (mth 43) (pg P43 11).1 [some (.ref a), some (.int b), some (.int p), some (.int gr), some (.int (nI t)), some (.int (nI s))] [] m 0 0 Q := by
  intro j
  induction j with
  | zero => intro s h1 h2 hall; omega
  | succ j ih =>
    intro s h1 h2 hall
    refine J_w z43 (i := 11) (by decide) 92 ?_
    refine And.intro (fun cz13 => ?_) (fun cz13 => ?_)
    · -- 13 taken: nI 5 ≤ nI s
      have kz13 : 5 ≤ s := kle (a := 5) (b := s) rfl rfl (by omega) (by omega) cz13
      show Jj sc d 0 0 (mth 43) (pg P43 5).1 [some (.ref a), some (.int b), some (.int p), some (.int gr), some (.int (nI t + nI 1)), some (.int (nI s))] [] m 0 0 Q
      rw [show nI t + nI 1 = nI (t + 1) from by simp only [nI_add, pk_mul]]
      refine J_wk (L' := [some (.ref a), some (.int b), some (.int p), some (.int gr), some (.int (nI (t + 1))), none]) ⟨rfl, rfl, rfl, rfl, rfl, trivial⟩ ?_
      rw [show s = 5 by omega] at hall
      exact hk hall
    · -- 13 not: ¬ nI 5 ≤ nI s
      have kz13 : s < 5 := knle (a := 5) (b := s) rfl rfl (by omega) (by omega) cz13
      refine And.intro (fun cz20 => ?_) (fun cz20 => ?_)
      · -- 20 taken: ¬ (gr >>> (nI s &&& 31)) &&& nI 1 = nI 1
        show Jj sc d 0 0 (mth 43) (pg P43 11).1 [some (.ref a), some (.int b), some (.int p), some (.int gr), some (.int (nI t)), some (.int (nI s + nI 1))] [] m 0 0 Q
        rw [show nI s + nI 1 = nI (s + 1) from by simp only [nI_add, pk_mul]]
        have hall2 : ∀ s1, s1 < s + 1 → bq gr (nI s1) → haP (mI m (a + 7)) b p t s1 n := by
          intro v9 h9
          rcases Nat.lt_or_ge v9 s with q9 | q9
          · exact hall v9 q9
          · have ez9 : v9 = s := by omega
            rw [ez9]
            exact fun z => absurd z cz20
        exact ih (s + 1) (by omega) (by omega) hall2
      · -- 20 not: (gr >>> (nI s &&& 31)) &&& nI 1 = nI 1
        refine And.intro ⟨by omega, Nat.le_of_ble_eq_true rfl, Nat.le_refl _, Nat.le_refl _⟩ ?_
        refine C44 (b := b) (t := t) (s := s) (p := p) (by omega) hL hw hh hwh hnt hnt6 hn hn6 (by omega) (by omega) ?_
        refine And.intro (fun cz27 => ?_) (fun cz27 => ?_)
        · -- 27 taken: ¬ bi (haP (mI m (a + 7)) b p t s n) = 0
          show Jj sc d 0 0 (mth 43) (pg P43 11).1 [some (.ref a), some (.int b), some (.int p), some (.int gr), some (.int (nI t)), some (.int (nI s + nI 1))] [] m 0 0 Q
          rw [show nI s + nI 1 = nI (s + 1) from by simp only [nI_add, pk_mul]]
          have hall2 : ∀ s1, s1 < s + 1 → bq gr (nI s1) → haP (mI m (a + 7)) b p t s1 n := by
            intro v9 h9
            rcases Nat.lt_or_ge v9 s with q9 | q9
            · exact hall v9 q9
            · have ez9 : v9 = s := by omega
              rw [ez9]
              exact fun _ => bi_ne0.mp cz27
          exact ih (s + 1) (by omega) (by omega) hall2
        · -- 27 not: bi (haP (mI m (a + 7)) b p t s n) = 0
          refine And.intro ⟨rfl, Or.inl rfl, Nat.le_refl _, Nat.le_refl _⟩ ?_
          rw [bi_f (fun z => (bi_eq0.mp cz27) (z t (by omega) s (by omega) cz20))] at hQ; exact hQ
theorem lp43b {sc : Nat × (Nat → Int32)} {d : Nat} {m : Mm} {Q : Option Value → Mm → Prop} {a w h nt n : Nat} (hd : 4 ≤ d) (hL : LW m.2.2 a) (hw : mI m a 0 = nI w) (hh : mI m a 1 = nI h) (hwh : w * h ≤ 24) (hnt : mI m (a + 1) 2 = nI nt) (hnt6 : nt ≤ 6) (hn : mI m (a + 1) 4 = nI n) (hn6 : n ≤ 6) {b p gr : Int32} (hQ : Q (some (.int (bi (∀ t1, t1 < nt → ∀ s1, s1 < 5 → bq gr (nI s1) → haP (mI m (a + 7)) b p t1 s1 n)))) m)  : ∀ (j t : Nat), t ≤ nt → nt + 1 ≤ t + j → (∀ t1, t1 < t → ∀ s1, s1 < 5 → bq gr (nI s1) → haP (mI m (a + 7)) b p t1 s1 n) → Jj sc d 0 0 (mth 43) (pg P43 5).1 [some (.ref a), some (.int b), some (.int p), some (.int gr), some (.int (nI t)), none] [] m 0 0 Q := by
  intro j
  induction j with
  | zero => intro t h1 h2 hall; omega
  | succ j ih =>
    intro t h1 h2 hall
    refine J_w z43 (i := 5) (by decide) 92 ?_
    refine And.intro ⟨by omega, Nat.le_of_ble_eq_true rfl, Nat.le_refl _, Nat.le_refl _⟩ (And.intro (LWo_0 hL) ?_)
    refine C22 hL ?_
    rw [hnt]
    refine And.intro (fun cz8 => ?_) (fun cz8 => ?_)
    · -- 8 taken: nI nt ≤ nI t
      have kz8 : nt ≤ t := kle (a := nt) (b := t) rfl rfl (by omega) (by omega) cz8
      refine And.intro ⟨rfl, Or.inr rfl, Nat.le_refl _, Nat.le_refl _⟩ ?_
      rw [show t = nt by omega] at hall
      rw [bi_t hall] at hQ; exact hQ
    · -- 8 not: ¬ nI nt ≤ nI t
      have kz8 : t < nt := knle (a := nt) (b := t) rfl rfl (by omega) (by omega) cz8
      show Jj sc d 0 0 (mth 43) (pg P43 11).1 [some (.ref a), some (.int b), some (.int p), some (.int gr), some (.int (nI t)), some (.int (nI 0))] [] m 0 0 Q
      refine lp43a hd hL hw hh hwh hnt hnt6 hn hn6 kz8 hQ (fun hin => ?_) 6 0 (by decide) (by decide) (fun _ h => absurd h (by omega))
      have hall2 : ∀ t1, t1 < t + 1 → ∀ s1, s1 < 5 → bq gr (nI s1) → haP (mI m (a + 7)) b p t1 s1 n := by
        intro v9 h9
        rcases Nat.lt_or_ge v9 t with q9 | q9
        · exact hall v9 q9
        · have ez9 : v9 = t := by omega
          rw [ez9]
          exact hin
      exact ih (t + 1) (by omega) (by omega) hall2
theorem C43 {d : Nat} {m : Mm} {Q : Option Value → Mm → Prop} {a w h nt n : Nat} (hd : 4 ≤ d) (hL : LW m.2.2 a) (hw : mI m a 0 = nI w) (hh : mI m a 1 = nI h) (hwh : w * h ≤ 24) (hnt : mI m (a + 1) 2 = nI nt) (hnt6 : nt ≤ 6) (hn : mI m (a + 1) 4 = nI n) (hn6 : n ≤ 6) {b p : Int32} (hQ : Q (some (.int (bi (∀ t1, t1 < nt → ∀ s1, s1 < 5 → bq (grF (mI m (a + 2)) (w * h)) (nI s1) → haP (mI m (a + 7)) b p t1 s1 n)))) m) : Cc d 0 0 43 [.ref a, .int b, .int p] m Q := by
  refine ent (n := 92) z43 (by decide) rfl (by decide) (Nat.le_of_ble_eq_true rfl) (fun sc => ?_)
  refine And.intro ⟨by omega, Nat.le_of_ble_eq_true rfl, Nat.le_refl _, Nat.le_refl _⟩ (And.intro (LWo_0 hL) ?_)
  refine C28 hL hw hh hwh ?_
  show Jj sc d 0 0 (mth 43) (pg P43 5).1 [some (.ref a), some (.int b), some (.int p), some (.int (grF (mI m (a + 2)) (w * h))), some (.int (nI 0)), none] [] m 0 0 Q
  exact lp43b hd hL hw hh hwh hnt hnt6 hn hn6 hQ (nt + 1) 0 (Nat.zero_le _) (by omega) (fun _ h => absurd h (by omega))
/-- the next of the sets tried: fewer members than the best, and good -/
noncomputable def fhS (P : Nat → Prop) : Nat → Int32 → Int32 := fun s x => if x = -nI 2 ∨ bcF (nI s) < bcF x then (if bi (P s) = 0 then x else nI s) else x
noncomputable def fhQ (P : Nat → Prop) (s : Nat) : Int32 := fo (fhS P) (-nI 2) s
theorem fhQ_s {P : Nat → Prop} {s : Nat} : fhQ P (s + 1) = fhS P s (fhQ P s) := fo_s
theorem lp42 {sc : Nat × (Nat → Int32)} {d : Nat} {m : Mm} {Q : Option Value → Mm → Prop} {a w h nt n : Nat} (hd : 5 ≤ d) (hL : LW m.2.2 a) (hw : mI m a 0 = nI w) (hh : mI m a 1 = nI h) (hwh : w * h ≤ 24) (hnt : mI m (a + 1) 2 = nI nt) (hnt6 : nt ≤ 6) (hn : mI m (a + 1) 4 = nI n) (hn6 : n ≤ 6) {p : Int32} (hsh : nI 1 <<< (nI n &&& 31) = nI (2 ^ n)) (h2n : 2 ^ n ≤ 64) (hQ : Q (some (.int (fhQ (fun s => ∀ t1, t1 < nt → ∀ s1, s1 < 5 → bq (grF (mI m (a + 2)) (w * h)) (nI s1) → haP (mI m (a + 7)) (nI s) p t1 s1 n) (2 ^ n)))) m)  : ∀ (j s : Nat), s ≤ 2 ^ n → 2 ^ n + 1 ≤ s + j → Jj sc d 0 0 (mth 42) (pg P42 4).1 [some (.ref a), some (.int p), some (.int (fhQ (fun s => ∀ t1, t1 < nt → ∀ s1, s1 < 5 → bq (grF (mI m (a + 2)) (w * h)) (nI s1) → haP (mI m (a + 7)) (nI s) p t1 s1 n) s)), some (.int (nI s))] [] m 0 0 Q := by
  intro j
  induction j with
  | zero => intro s h1 h2; omega
  | succ j ih =>
    intro s h1 h2
    refine J_w z42 (i := 4) (by decide) 70 ?_
    refine And.intro ⟨by omega, Nat.le_of_ble_eq_true rfl, Nat.le_refl _, Nat.le_refl _⟩ (And.intro (LWo_0 hL) ?_)
    refine C23 hL ?_
    rw [hn]
    refine And.intro (fun cz9 => ?_) (fun cz9 => ?_)
    · -- 9 taken: nI 1 <<< (nI n &&& 31) ≤ nI s
      rw [hsh] at cz9
      have kz9 : 2 ^ n ≤ s := kle (a := 2 ^ n) (b := s) rfl rfl (by omega) (by omega) cz9
      refine And.intro ⟨rfl, trivial, Nat.le_refl _, Nat.le_refl _⟩ ?_
      rw [show s = 2 ^ n by omega]
      exact hQ
    · -- 9 not: ¬ nI 1 <<< (nI n &&& 31) ≤ nI s
      rw [hsh] at cz9
      have kz9 : s < 2 ^ n := knle (a := 2 ^ n) (b := s) rfl rfl (by omega) (by omega) cz9
      refine And.intro ⟨by omega, Nat.le_of_ble_eq_true rfl, Nat.le_refl _, Nat.le_refl _⟩ ?_
      refine C41 (by omega) ?_
      refine And.intro (fun cz13 => ?_) (fun cz13 => ?_)
      · -- 13 taken: bi (fhQ (fun s => ∀ t1, t1 < nt → ∀ s1, s1 < 5 → bq (grF (mI m (a + 2)) (w * h)) (nI s1) → haP (mI m (a + 7)) (nI s) p t1 s1 n) s = -nI 2 ∨ bcF (nI s) < bcF (fhQ (fun s => ∀ t1, t1 < nt → ∀ s1, s1 < 5 → bq (grF (mI m (a + 2)) (w * h)) (nI s1) → haP (mI m (a + 7)) (nI s) p t1 s1 n) s)) = 0
        show Jj sc d 0 0 (mth 42) (pg P42 4).1 [some (.ref a), some (.int p), some (.int (fhQ (fun s => ∀ t1, t1 < nt → ∀ s1, s1 < 5 → bq (grF (mI m (a + 2)) (w * h)) (nI s1) → haP (mI m (a + 7)) (nI s) p t1 s1 n) s)), some (.int (nI s + nI 1))] [] m 0 0 Q
        rw [show nI s + nI 1 = nI (s + 1) from by simp only [nI_add, pk_mul]]
        have z := ih (s + 1) (by omega) (by omega)
        rw [fhQ_s] at z
        unfold fhS at z
        rw [if_neg (bi_eq0.mp cz13)] at z
        exact z
      · -- 13 not: ¬ bi (fhQ (fun s => ∀ t1, t1 < nt → ∀ s1, s1 < 5 → bq (grF (mI m (a + 2)) (w * h)) (nI s1) → haP (mI m (a + 7)) (nI s) p t1 s1 n) s = -nI 2 ∨ bcF (nI s) < bcF (fhQ (fun s => ∀ t1, t1 < nt → ∀ s1, s1 < 5 → bq (grF (mI m (a + 2)) (w * h)) (nI s1) → haP (mI m (a + 7)) (nI s) p t1 s1 n) s)) = 0
        refine And.intro ⟨by omega, Nat.le_of_ble_eq_true rfl, Nat.le_refl _, Nat.le_refl _⟩ ?_
        refine C43 (b := nI s) (p := p) (by omega) hL hw hh hwh hnt hnt6 hn hn6 ?_
        refine And.intro (fun cz18 => ?_) (fun cz18 => ?_)
        · -- 18 taken: bi (∀ t1, t1 < nt → ∀ s1, s1 < 5 → bq (grF (mI m (a + 2)) (w * h)) (nI s1) → haP (mI m (a + 7)) (nI s) p t1 s1 n) = 0
          show Jj sc d 0 0 (mth 42) (pg P42 4).1 [some (.ref a), some (.int p), some (.int (fhQ (fun s => ∀ t1, t1 < nt → ∀ s1, s1 < 5 → bq (grF (mI m (a + 2)) (w * h)) (nI s1) → haP (mI m (a + 7)) (nI s) p t1 s1 n) s)), some (.int (nI s + nI 1))] [] m 0 0 Q
          rw [show nI s + nI 1 = nI (s + 1) from by simp only [nI_add, pk_mul]]
          have z := ih (s + 1) (by omega) (by omega)
          rw [fhQ_s] at z
          unfold fhS at z
          rw [if_pos (bi_ne0.mp cz13), if_pos cz18] at z
          exact z
        · -- 18 not: ¬ bi (∀ t1, t1 < nt → ∀ s1, s1 < 5 → bq (grF (mI m (a + 2)) (w * h)) (nI s1) → haP (mI m (a + 7)) (nI s) p t1 s1 n) = 0
          show Jj sc d 0 0 (mth 42) (pg P42 4).1 [some (.ref a), some (.int p), some (.int (nI s)), some (.int (nI s + nI 1))] [] m 0 0 Q
          rw [show nI s + nI 1 = nI (s + 1) from by simp only [nI_add, pk_mul]]
          have z := ih (s + 1) (by omega) (by omega)
          rw [fhQ_s] at z
          unfold fhS at z
          rw [if_pos (bi_ne0.mp cz13), if_neg cz18] at z
          exact z
theorem C42 {d : Nat} {m : Mm} {Q : Option Value → Mm → Prop} {a w h nt n : Nat} (hd : 5 ≤ d) (hL : LW m.2.2 a) (hw : mI m a 0 = nI w) (hh : mI m a 1 = nI h) (hwh : w * h ≤ 24) (hnt : mI m (a + 1) 2 = nI nt) (hnt6 : nt ≤ 6) (hn : mI m (a + 1) 4 = nI n) (hn6 : n ≤ 6) {p : Int32} (hsh : nI 1 <<< (nI n &&& 31) = nI (2 ^ n)) (h2n : 2 ^ n ≤ 64) (hQ : Q (some (.int (fhQ (fun s => ∀ t1, t1 < nt → ∀ s1, s1 < 5 → bq (grF (mI m (a + 2)) (w * h)) (nI s1) → haP (mI m (a + 7)) (nI s) p t1 s1 n) (2 ^ n)))) m) : Cc d 0 0 42 [.ref a, .int p] m Q := by
  refine ent (n := 70) z42 (by decide) rfl (by decide) (Nat.le_of_ble_eq_true rfl) (fun sc => ?_)
  show Jj sc d 0 0 (mth 42) (pg P42 4).1 [some (.ref a), some (.int p), some (.int (-nI 2)), some (.int (nI 0))] [] m 0 0 Q
  exact lp42 hd hL hw hh hwh hnt hnt6 hn hn6 hsh h2n hQ (2 ^ n + 1) 0 (Nat.zero_le _) (by omega)
theorem lp45 {sc : Nat × (Nat → Int32)} {d : Nat} {m : Mm} {Q : Option Value → Mm → Prop} {a np : Nat} (hd : 1 ≤ d) (hL : LW m.2.2 a) (hp : mI m (a + 1) 8 = nI np) (hp8 : np ≤ 8) {x : Int32} (hQ : Q (some (.int (bi (¬ ∀ p1, p1 < np → bq x (nI p1) → mI m (a + 10) p1 &&& x = 0)))) m)  : ∀ (j p : Nat), p ≤ np → np + 1 ≤ p + j → (∀ p1, p1 < p → bq x (nI p1) → mI m (a + 10) p1 &&& x = 0) → Jj sc d 0 0 (mth 45) (pg P45 2).1 [some (.ref a), some (.int x), some (.int (nI p))] [] m 0 0 Q := by
  intro j
  induction j with
  | zero => intro p h1 h2 hall; omega
  | succ j ih =>
    intro p h1 h2 hall
    refine J_w z45 (i := 2) (by decide) 72 ?_
    refine And.intro ⟨by omega, Nat.le_of_ble_eq_true rfl, Nat.le_refl _, Nat.le_refl _⟩ (And.intro (LWo_0 hL) ?_)
    refine C24 hL ?_
    rw [hp]
    refine And.intro (fun cz5 => ?_) (fun cz5 => ?_)
    · -- 5 taken: nI np ≤ nI p
      have kz5 : np ≤ p := kle (a := np) (b := p) rfl rfl (by omega) (by omega) cz5
      refine And.intro ⟨rfl, Or.inl rfl, Nat.le_refl _, Nat.le_refl _⟩ ?_
      rw [show p = np by omega] at hall
      rw [bi_f (fun z => z hall)] at hQ; exact hQ
    · -- 5 not: ¬ nI np ≤ nI p
      have kz5 : p < np := knle (a := np) (b := p) rfl rfl (by omega) (by omega) cz5
      refine And.intro (fun cz12 => ?_) (fun cz12 => ?_)
      · -- 12 taken: ¬ (x >>> (nI p &&& 31)) &&& nI 1 = nI 1
        show Jj sc d 0 0 (mth 45) (pg P45 2).1 [some (.ref a), some (.int x), some (.int (nI p + nI 1))] [] m 0 0 Q
        rw [show nI p + nI 1 = nI (p + 1) from by simp only [nI_add, pk_mul]]
        have hall2 : ∀ p1, p1 < p + 1 → bq x (nI p1) → mI m (a + 10) p1 &&& x = 0 := by
          intro v9 h9
          rcases Nat.lt_or_ge v9 p with q9 | q9
          · exact hall v9 q9
          · have ez9 : v9 = p := by omega
            rw [ez9]
            exact fun z => absurd z cz12
        exact ih (p + 1) (by omega) (by omega) hall2
      · -- 12 not: (x >>> (nI p &&& 31)) &&& nI 1 = nI 1
        refine And.intro (LWo_0 hL) (Exists.intro _ (And.intro (LWr_0_13 hL) ?_))
        refine And.intro (LWi_10 hL (vi rfl (by omega))) ?_
        rw [nI_clamp (show p < 2 ^ 31 by omega)]
        refine And.intro (fun cz19 => ?_) (fun cz19 => ?_)
        · -- 19 taken: (mI m (a + 10) p) &&& x = 0
          show Jj sc d 0 0 (mth 45) (pg P45 2).1 [some (.ref a), some (.int x), some (.int (nI p + nI 1))] [] m 0 0 Q
          rw [show nI p + nI 1 = nI (p + 1) from by simp only [nI_add, pk_mul]]
          have hall2 : ∀ p1, p1 < p + 1 → bq x (nI p1) → mI m (a + 10) p1 &&& x = 0 := by
            intro v9 h9
            rcases Nat.lt_or_ge v9 p with q9 | q9
            · exact hall v9 q9
            · have ez9 : v9 = p := by omega
              rw [ez9]
              exact fun _ => cz19
          exact ih (p + 1) (by omega) (by omega) hall2
        · -- 19 not: ¬ (mI m (a + 10) p) &&& x = 0
          refine And.intro ⟨rfl, Or.inr rfl, Nat.le_refl _, Nat.le_refl _⟩ ?_
          rw [bi_t (fun z => cz19 (z p (by omega) cz12))] at hQ; exact hQ
theorem C45 {d : Nat} {m : Mm} {Q : Option Value → Mm → Prop} {a np : Nat} (hd : 1 ≤ d) (hL : LW m.2.2 a) (hp : mI m (a + 1) 8 = nI np) (hp8 : np ≤ 8) {x : Int32} (hQ : Q (some (.int (bi (¬ ∀ p1, p1 < np → bq x (nI p1) → mI m (a + 10) p1 &&& x = 0)))) m) : Cc d 0 0 45 [.ref a, .int x] m Q := by
  refine ent (n := 72) z45 (by decide) rfl (by decide) (Nat.le_of_ble_eq_true rfl) (fun sc => ?_)
  show Jj sc d 0 0 (mth 45) (pg P45 2).1 [some (.ref a), some (.int x), some (.int (nI 0))] [] m 0 0 Q
  exact lp45 hd hL hp hp8 hQ (np + 1) 0 (Nat.zero_le _) (by omega) (fun _ h => absurd h (by omega))
