theorem or_z {x : Int32} : x ||| nI 0 = x := Int32.or_zero
theorem add_z {x : Int32} : x + nI 0 = x := Int32.add_zero x
theorem and_s {x : Int32} : x &&& x = x := Int32.and_self
theorem lown {sc : Nat × (Nat → Int32)} {d : Nat} {m : Mm} {Q : Option Value → Mm → Prop} {q n nt : Nat} (hd : 2 ≤ d) (hW : Wd m.2.2) (hN : NW m.2.2 q) (h158 : 158 ≤ q) (hq : va_rf (mR m 142 3) = .ref q) (hn : mI m q 6 = nI n) (hn6 : n ≤ 6) (hnt : mI m q 5 = nI nt) (hnt6 : nt ≤ 6) {t s : Nat} {h : Int32} (ht : t < 6) (hs : s < 5) (hQ : Q (some (.int (hoF (mI m (q + 7)) t s h n))) m)  : ∀ (j g : Nat), g ≤ n → n + 1 ≤ g + j → Jj sc d 0 0 (mth 258) (pg P258 4).1 [some (.ref 142), some (.int (nI t)), some (.int (nI s)), some (.int h), some (.int (hoF (mI m (q + 7)) t s h g)), some (.int (nI g))] [] m 0 0 Q := by
  intro j
  induction j with
  | zero => intro g h1 h2; omega
  | succ j ih =>
    intro g h1 h2
    refine J_w z258 (i := 4) (by decide) 76 ?_
    refine And.intro (Wdo_142 hW) (Exists.intro _ (And.intro hq ?_))
    refine And.intro (NWo_0 hN) ?_
    rw [hn]
    refine And.intro (fun cz8 => ?_) (fun cz8 => ?_)
    · -- 8 taken: nI n ≤ nI g
      have kz8 : n ≤ g := kle (a := n) (b := g) rfl rfl (by omega) (by omega) cz8
      refine And.intro ⟨rfl, trivial, Nat.le_refl _, Nat.le_refl _⟩ ?_
      rw [show g = n by omega]
      exact hQ
    · -- 8 not: ¬ nI n ≤ nI g
      have kz8 : g < n := knle (a := n) (b := g) rfl rfl (by omega) (by omega) cz8
      refine And.intro ⟨by omega, Nat.le_of_ble_eq_true rfl, Nat.le_refl _, Nat.le_refl _⟩ (And.intro (Wdo_142 hW) ?_)
      refine C256 (g := g) (t := t) (s := s) hW hN hq (by omega) (by omega) (by omega) (by omega) ?_
      refine And.intro (fun cz16 => ?_) (fun cz16 => ?_)
      · -- 16 taken: bi (bq (mI m (q + 7) ((g * 6 + t) * 5 + s)) h) = 0
        show Jj sc d 0 0 (mth 258) (pg P258 4).1 [some (.ref 142), some (.int (nI t)), some (.int (nI s)), some (.int h), some (.int ((hoF (mI m (q + 7)) t s h g) ||| nI 0)), some (.int (nI g + nI 1))] [] m 0 0 Q
        rw [show nI g + nI 1 = nI (g + 1) from by simp only [nI_add, pk_mul]]
        have w9 := ih (g + 1) (by omega) (by omega)
        rw [show hoF (mI m (q + 7)) t s h (g + 1) = _ from fo_s] at w9
        rw [if_neg (bi_eq0.mp cz16)] at w9
        rw [or_z]
        exact w9
      · -- 16 not: ¬ bi (bq (mI m (q + 7) ((g * 6 + t) * 5 + s)) h) = 0
        show Jj sc d 0 0 (mth 258) (pg P258 4).1 [some (.ref 142), some (.int (nI t)), some (.int (nI s)), some (.int h), some (.int ((hoF (mI m (q + 7)) t s h g) ||| (nI 1 <<< (nI g &&& 31)))), some (.int (nI g + nI 1))] [] m 0 0 Q
        rw [show nI g + nI 1 = nI (g + 1) from by simp only [nI_add, pk_mul]]
        have w9 := ih (g + 1) (by omega) (by omega)
        rw [show hoF (mI m (q + 7)) t s h (g + 1) = _ from fo_s] at w9
        rw [if_pos (bi_ne0.mp cz16)] at w9
        exact w9
theorem C258 {d : Nat} {m : Mm} {Q : Option Value → Mm → Prop} {q n nt : Nat} (hd : 2 ≤ d) (hW : Wd m.2.2) (hN : NW m.2.2 q) (h158 : 158 ≤ q) (hq : va_rf (mR m 142 3) = .ref q) (hn : mI m q 6 = nI n) (hn6 : n ≤ 6) (hnt : mI m q 5 = nI nt) (hnt6 : nt ≤ 6) {t s : Nat} {h : Int32} (ht : t < 6) (hs : s < 5) (hQ : Q (some (.int (hoF (mI m (q + 7)) t s h n))) m)  : Cc d 0 0 258 [.ref 142, .int (nI t), .int (nI s), .int h] m Q := by
  refine ent (n := 76) z258 (by decide) rfl (by decide) (Nat.le_of_ble_eq_true rfl) (fun sc => ?_)
  show Jj sc d 0 0 (mth 258) (pg P258 4).1 [some (.ref 142), some (.int (nI t)), some (.int (nI s)), some (.int h), some (.int (nI 0)), some (.int (nI 0))] [] m 0 0 Q
  exact lown (by omega) hW hN h158 hq hn hn6 hnt hnt6 ht hs hQ (n + 1) 0 (Nat.zero_le _) (by omega)
theorem lshb_a {sc : Nat × (Nat → Int32)} {d : Nat} {m : Mm} {Q : Option Value → Mm → Prop} {q n nt : Nat} (hd : 2 ≤ d) (hW : Wd m.2.2) (hN : NW m.2.2 q) (h158 : 158 ≤ q) (hq : va_rf (mR m 142 3) = .ref q) (hn : mI m q 6 = nI n) (hn6 : n ≤ 6) (hnt : mI m q 5 = nI nt) (hnt6 : nt ≤ 6) {g g2 : Nat} (hg : g < 6) (hg2 : g2 < 6) {t : Nat} (ht : t < nt) (hk : Jj sc d 0 0 (mth 267) (pg P267 4).1 [some (.ref 142), some (.int (nI g)), some (.int (nI g2)), some (.int (heF (mI m (q + 7)) g g2 (mI m q 4) (t + 1))), some (.int (nI (t + 1))), none] [] m 0 0 Q)  : ∀ (j s : Nat), s ≤ 5 → 5 + 1 ≤ s + j → Jj sc d 0 0 (mth 267) (pg P267 11).1 [some (.ref 142), some (.int (nI g)), some (.int (nI g2)), some (.int (fo (heS (mI m (q + 7)) g g2 t (mI m q 4)) (heF (mI m (q + 7)) g g2 (mI m q 4) t) s)), some (.int (nI t)), some (.int (nI s))] [] m 0 0 Q := by
  intro j
  induction j with
  | zero => intro s h1 h2; omega
  | succ j ih =>
    intro s h1 h2
    refine J_w z267 (i := 11) (by decide) 106 ?_
    refine And.intro (fun cz13 => ?_) (fun cz13 => ?_)
    · -- 13 taken: nI 5 ≤ nI s
      have kz13 : 5 ≤ s := kle (a := 5) (b := s) rfl rfl (by omega) (by omega) cz13
      show Jj sc d 0 0 (mth 267) (pg P267 4).1 [some (.ref 142), some (.int (nI g)), some (.int (nI g2)), some (.int (fo (heS (mI m (q + 7)) g g2 t (mI m q 4)) (heF (mI m (q + 7)) g g2 (mI m q 4) t) s)), some (.int (nI t + nI 1)), some (.int (nI s))] [] m 0 0 Q
      rw [show nI t + nI 1 = nI (t + 1) from by simp only [nI_add, pk_mul]]
      refine J_wk (L' := [some (.ref 142), some (.int (nI g)), some (.int (nI g2)), some (.int (fo (heS (mI m (q + 7)) g g2 t (mI m q 4)) (heF (mI m (q + 7)) g g2 (mI m q 4) t) s)), some (.int (nI (t + 1))), none]) ⟨rfl, rfl, rfl, rfl, rfl, trivial⟩ ?_
      rw [show s = 5 by omega]
      exact hk
    · -- 13 not: ¬ nI 5 ≤ nI s
      have kz13 : s < 5 := knle (a := 5) (b := s) rfl rfl (by omega) (by omega) cz13
      refine And.intro ⟨by omega, Nat.le_of_ble_eq_true rfl, Nat.le_refl _, Nat.le_refl _⟩ (And.intro (Wdo_142 hW) ?_)
      refine C260 hW hN hq (by omega) ?_
      refine And.intro (fun cz18 => ?_) (fun cz18 => ?_)
      · -- 18 taken: bi (bq (mI m q 4) (nI s)) = 0
        show Jj sc d 0 0 (mth 267) (pg P267 11).1 [some (.ref 142), some (.int (nI g)), some (.int (nI g2)), some (.int ((fo (heS (mI m (q + 7)) g g2 t (mI m q 4)) (heF (mI m (q + 7)) g g2 (mI m q 4) t) s) + nI 0)), some (.int (nI t)), some (.int (nI s + nI 1))] [] m 0 0 Q
        rw [show nI s + nI 1 = nI (s + 1) from by simp only [nI_add, pk_mul]]
        have w9 := ih (s + 1) (by omega) (by omega)
        rw [fo_s] at w9
        unfold heS at w9
        rw [if_neg (bi_eq0.mp cz18)] at w9
        rw [add_z]
        exact w9
      · -- 18 not: ¬ bi (bq (mI m q 4) (nI s)) = 0
        refine And.intro (Wdo_142 hW) (Exists.intro _ (And.intro hq ?_))
        refine And.intro ⟨by omega, Nat.le_of_ble_eq_true rfl, Nat.le_refl _, Nat.le_refl _⟩ (And.intro (NWo_0 hN) ?_)
        refine C197 (g := g) (t := t) (s := s) hN (by omega) (by omega) (by omega) ?_
        refine And.intro (Wdo_142 hW) (Exists.intro _ (And.intro hq ?_))
        refine And.intro ⟨by omega, Nat.le_of_ble_eq_true rfl, Nat.le_refl _, Nat.le_refl _⟩ (And.intro (NWo_0 hN) ?_)
        refine C197 (g := g2) (t := t) (s := s) hN (by omega) (by omega) (by omega) ?_
        refine And.intro ⟨by omega, Nat.le_of_ble_eq_true rfl, Nat.le_refl _, Nat.le_refl _⟩ ?_
        refine C206 ?_
        show Jj sc d 0 0 (mth 267) (pg P267 11).1 [some (.ref 142), some (.int (nI g)), some (.int (nI g2)), some (.int ((fo (heS (mI m (q + 7)) g g2 t (mI m q 4)) (heF (mI m (q + 7)) g g2 (mI m q 4) t) s) + (bcF ((mI m (q + 7) ((g * 6 + t) * 5 + s)) &&& (mI m (q + 7) ((g2 * 6 + t) * 5 + s)))))), some (.int (nI t)), some (.int (nI s + nI 1))] [] m 0 0 Q
        rw [show nI s + nI 1 = nI (s + 1) from by simp only [nI_add, pk_mul]]
        have w9 := ih (s + 1) (by omega) (by omega)
        rw [fo_s] at w9
        unfold heS at w9
        rw [if_pos (bi_ne0.mp cz18)] at w9
        exact w9
theorem lshb_b {sc : Nat × (Nat → Int32)} {d : Nat} {m : Mm} {Q : Option Value → Mm → Prop} {q n nt : Nat} (hd : 2 ≤ d) (hW : Wd m.2.2) (hN : NW m.2.2 q) (h158 : 158 ≤ q) (hq : va_rf (mR m 142 3) = .ref q) (hn : mI m q 6 = nI n) (hn6 : n ≤ 6) (hnt : mI m q 5 = nI nt) (hnt6 : nt ≤ 6) {g g2 : Nat} (hg : g < 6) (hg2 : g2 < 6) (hQ : Q (some (.int (heF (mI m (q + 7)) g g2 (mI m q 4) nt))) m)  : ∀ (j t : Nat), t ≤ nt → nt + 1 ≤ t + j → Jj sc d 0 0 (mth 267) (pg P267 4).1 [some (.ref 142), some (.int (nI g)), some (.int (nI g2)), some (.int (heF (mI m (q + 7)) g g2 (mI m q 4) t)), some (.int (nI t)), none] [] m 0 0 Q := by
  intro j
  induction j with
  | zero => intro t h1 h2; omega
  | succ j ih =>
    intro t h1 h2
    refine J_w z267 (i := 4) (by decide) 106 ?_
    refine And.intro (Wdo_142 hW) (Exists.intro _ (And.intro hq ?_))
    refine And.intro (NWo_0 hN) ?_
    rw [hnt]
    refine And.intro (fun cz8 => ?_) (fun cz8 => ?_)
    · -- 8 taken: nI nt ≤ nI t
      have kz8 : nt ≤ t := kle (a := nt) (b := t) rfl rfl (by omega) (by omega) cz8
      refine And.intro ⟨rfl, trivial, Nat.le_refl _, Nat.le_refl _⟩ ?_
      rw [show t = nt by omega]
      exact hQ
    · -- 8 not: ¬ nI nt ≤ nI t
      have kz8 : t < nt := knle (a := nt) (b := t) rfl rfl (by omega) (by omega) cz8
      show Jj sc d 0 0 (mth 267) (pg P267 11).1 [some (.ref 142), some (.int (nI g)), some (.int (nI g2)), some (.int (heF (mI m (q + 7)) g g2 (mI m q 4) t)), some (.int (nI t)), some (.int (nI 0))] [] m 0 0 Q
      exact lshb_a (by omega) hW hN h158 hq hn hn6 hnt hnt6 hg hg2 kz8 (ih (t + 1) (by omega) (by omega)) 6 0 (by decide) (by decide)
theorem C267 {d : Nat} {m : Mm} {Q : Option Value → Mm → Prop} {q n nt : Nat} (hd : 2 ≤ d) (hW : Wd m.2.2) (hN : NW m.2.2 q) (h158 : 158 ≤ q) (hq : va_rf (mR m 142 3) = .ref q) (hn : mI m q 6 = nI n) (hn6 : n ≤ 6) (hnt : mI m q 5 = nI nt) (hnt6 : nt ≤ 6) {g g2 : Nat} (hg : g < 6) (hg2 : g2 < 6) (hQ : Q (some (.int (heF (mI m (q + 7)) g g2 (mI m q 4) nt))) m) : Cc d 0 0 267 [.ref 142, .int (nI g), .int (nI g2)] m Q := by
  refine ent (n := 106) z267 (by decide) rfl (by decide) (Nat.le_of_ble_eq_true rfl) (fun sc => ?_)
  show Jj sc d 0 0 (mth 267) (pg P267 4).1 [some (.ref 142), some (.int (nI g)), some (.int (nI g2)), some (.int (nI 0)), some (.int (nI 0)), none] [] m 0 0 Q
  exact lshb_b (by omega) hW hN h158 hq hn hn6 hnt hnt6 hg hg2 hQ (nt + 1) 0 (Nat.zero_le _) (by omega)
noncomputable def owS (off : Nat → Int32) (n : Nat) (gr lo hi : Int32) (t s : Nat) : Nat → Int32 → Int32 := fun u x => if bq gr (nI s) ∧ (lo ≤ bcF (hoF off t s (nI u) n) ∧ bcF (hoF off t s (nI u) n) ≤ hi) then x + nI 1 else x
noncomputable def owM (off : Nat → Int32) (n : Nat) (gr lo hi : Int32) (t : Nat) : Nat → Int32 → Int32 := fun s x => fo (owS off n gr lo hi t s) x 24
noncomputable def owT (off : Nat → Int32) (n : Nat) (gr lo hi : Int32) : Nat → Int32 → Int32 := fun t x => fo (owM off n gr lo hi t) x 5
noncomputable def owF (off : Nat → Int32) (n : Nat) (gr lo hi : Int32) (nt : Nat) : Int32 := fo (owT off n gr lo hi) (nI 0) nt
theorem owF_s {off : Nat → Int32} {n : Nat} {gr lo hi : Int32} {t : Nat} : owF off n gr lo hi (t + 1) = fo (owM off n gr lo hi t) (owF off n gr lo hi t) 5 := rfl
theorem lowd_a {sc : Nat × (Nat → Int32)} {d : Nat} {m : Mm} {Q : Option Value → Mm → Prop} {q n nt : Nat} (hd : 3 ≤ d) (hW : Wd m.2.2) (hN : NW m.2.2 q) (h158 : 158 ≤ q) (hq : va_rf (mR m 142 3) = .ref q) (hn : mI m q 6 = nI n) (hn6 : n ≤ 6) (hnt : mI m q 5 = nI nt) (hnt6 : nt ≤ 6) {lo hi : Int32} {t s : Nat} (ht : t < nt) (hs : s < 5) (hk : Jj sc d 0 0 (mth 263) (pg P263 11).1 [some (.ref 142), some (.int lo), some (.int hi), some (.int (fo (owM (mI m (q + 7)) n (mI m q 4) lo hi t) (owF (mI m (q + 7)) n (mI m q 4) lo hi t) (s + 1))), some (.int (nI t)), some (.int (nI (s + 1))), none] [] m 0 0 Q)  : ∀ (j u : Nat), u ≤ 24 → 24 + 1 ≤ u + j → Jj sc d 0 0 (mth 263) (pg P263 16).1 [some (.ref 142), some (.int lo), some (.int hi), some (.int (fo (owS (mI m (q + 7)) n (mI m q 4) lo hi t s) (fo (owM (mI m (q + 7)) n (mI m q 4) lo hi t) (owF (mI m (q + 7)) n (mI m q 4) lo hi t) s) u)), some (.int (nI t)), some (.int (nI s)), some (.int (nI u))] [] m 0 0 Q := by
  intro j
  induction j with
  | zero => intro u h1 h2; omega
  | succ j ih =>
    intro u h1 h2
    refine J_w z263 (i := 16) (by decide) 114 ?_
    refine And.intro (fun cz18 => ?_) (fun cz18 => ?_)
    · -- 18 taken: nI 24 ≤ nI u
      have kz18 : 24 ≤ u := kle (a := 24) (b := u) rfl rfl (by omega) (by omega) cz18
      show Jj sc d 0 0 (mth 263) (pg P263 11).1 [some (.ref 142), some (.int lo), some (.int hi), some (.int (fo (owS (mI m (q + 7)) n (mI m q 4) lo hi t s) (fo (owM (mI m (q + 7)) n (mI m q 4) lo hi t) (owF (mI m (q + 7)) n (mI m q 4) lo hi t) s) u)), some (.int (nI t)), some (.int (nI s + nI 1)), some (.int (nI u))] [] m 0 0 Q
      rw [show nI s + nI 1 = nI (s + 1) from by simp only [nI_add, pk_mul]]
      refine J_wk (L' := [some (.ref 142), some (.int lo), some (.int hi), some (.int (fo (owS (mI m (q + 7)) n (mI m q 4) lo hi t s) (fo (owM (mI m (q + 7)) n (mI m q 4) lo hi t) (owF (mI m (q + 7)) n (mI m q 4) lo hi t) s) u)), some (.int (nI t)), some (.int (nI (s + 1))), none]) ⟨rfl, rfl, rfl, rfl, rfl, rfl, trivial⟩ ?_
      rw [show u = 24 by omega]
      exact hk
    · -- 18 not: ¬ nI 24 ≤ nI u
      have kz18 : u < 24 := knle (a := 24) (b := u) rfl rfl (by omega) (by omega) cz18
      refine And.intro ⟨by omega, Nat.le_of_ble_eq_true rfl, Nat.le_refl _, Nat.le_refl _⟩ (And.intro (Wdo_142 hW) ?_)
      refine C260 hW hN hq (by omega) ?_
      refine And.intro (fun cz23 => ?_) (fun cz23 => ?_)
      · -- 23 taken: bi (bq (mI m q 4) (nI s)) = 0
        show Jj sc d 0 0 (mth 263) (pg P263 16).1 [some (.ref 142), some (.int lo), some (.int hi), some (.int ((fo (owS (mI m (q + 7)) n (mI m q 4) lo hi t s) (fo (owM (mI m (q + 7)) n (mI m q 4) lo hi t) (owF (mI m (q + 7)) n (mI m q 4) lo hi t) s) u) + nI 0)), some (.int (nI t)), some (.int (nI s)), some (.int (nI u + nI 1))] [] m 0 0 Q
        rw [show nI u + nI 1 = nI (u + 1) from by simp only [nI_add, pk_mul]]
        have w9 := ih (u + 1) (by omega) (by omega)
        rw [fo_s (f := owS (mI m (q + 7)) n (mI m q 4) lo hi t s)] at w9
        unfold owS at w9
        rw [if_neg (fun z => bi_eq0.mp cz23 z.1)] at w9
        rw [add_z]
        exact w9
      · -- 23 not: ¬ bi (bq (mI m q 4) (nI s)) = 0
        refine And.intro ⟨by omega, Nat.le_of_ble_eq_true rfl, Nat.le_refl _, Nat.le_refl _⟩ (And.intro (Wdo_142 hW) ?_)
        refine C258 (t := t) (s := s) (by omega) hW hN h158 hq hn hn6 hnt hnt6 (by omega) (by omega) ?_
        refine And.intro ⟨by omega, Nat.le_of_ble_eq_true rfl, Nat.le_refl _, Nat.le_refl _⟩ ?_
        refine C206 ?_
        refine And.intro ⟨by omega, Nat.le_of_ble_eq_true rfl, Nat.le_refl _, Nat.le_refl _⟩ ?_
        refine C204 ?_
        refine And.intro (fun cz33 => ?_) (fun cz33 => ?_)
        · -- 33 taken: bi (lo ≤ bcF (hoF (mI m (q + 7)) t s (nI u) n) ∧ bcF (hoF (mI m (q + 7)) t s (nI u) n) ≤ hi) = 0
          show Jj sc d 0 0 (mth 263) (pg P263 16).1 [some (.ref 142), some (.int lo), some (.int hi), some (.int ((fo (owS (mI m (q + 7)) n (mI m q 4) lo hi t s) (fo (owM (mI m (q + 7)) n (mI m q 4) lo hi t) (owF (mI m (q + 7)) n (mI m q 4) lo hi t) s) u) + nI 0)), some (.int (nI t)), some (.int (nI s)), some (.int (nI u + nI 1))] [] m 0 0 Q
          rw [show nI u + nI 1 = nI (u + 1) from by simp only [nI_add, pk_mul]]
          have w9 := ih (u + 1) (by omega) (by omega)
          rw [fo_s (f := owS (mI m (q + 7)) n (mI m q 4) lo hi t s)] at w9
          unfold owS at w9
          rw [if_neg (fun z => bi_eq0.mp cz33 z.2)] at w9
          rw [add_z]
          exact w9
        · -- 33 not: ¬ bi (lo ≤ bcF (hoF (mI m (q + 7)) t s (nI u) n) ∧ bcF (hoF (mI m (q + 7)) t s (nI u) n) ≤ hi) = 0
          show Jj sc d 0 0 (mth 263) (pg P263 16).1 [some (.ref 142), some (.int lo), some (.int hi), some (.int ((fo (owS (mI m (q + 7)) n (mI m q 4) lo hi t s) (fo (owM (mI m (q + 7)) n (mI m q 4) lo hi t) (owF (mI m (q + 7)) n (mI m q 4) lo hi t) s) u) + nI 1)), some (.int (nI t)), some (.int (nI s)), some (.int (nI u + nI 1))] [] m 0 0 Q
          rw [show nI u + nI 1 = nI (u + 1) from by simp only [nI_add, pk_mul]]
          have w9 := ih (u + 1) (by omega) (by omega)
          rw [fo_s (f := owS (mI m (q + 7)) n (mI m q 4) lo hi t s)] at w9
          unfold owS at w9
          rw [if_pos ⟨bi_ne0.mp cz23, bi_ne0.mp cz33⟩] at w9
          exact w9
theorem lowd_b {sc : Nat × (Nat → Int32)} {d : Nat} {m : Mm} {Q : Option Value → Mm → Prop} {q n nt : Nat} (hd : 3 ≤ d) (hW : Wd m.2.2) (hN : NW m.2.2 q) (h158 : 158 ≤ q) (hq : va_rf (mR m 142 3) = .ref q) (hn : mI m q 6 = nI n) (hn6 : n ≤ 6) (hnt : mI m q 5 = nI nt) (hnt6 : nt ≤ 6) {lo hi : Int32} {t : Nat} (ht : t < nt) (hk : Jj sc d 0 0 (mth 263) (pg P263 4).1 [some (.ref 142), some (.int lo), some (.int hi), some (.int (owF (mI m (q + 7)) n (mI m q 4) lo hi (t + 1))), some (.int (nI (t + 1))), none, none] [] m 0 0 Q)  : ∀ (j s : Nat), s ≤ 5 → 5 + 1 ≤ s + j → Jj sc d 0 0 (mth 263) (pg P263 11).1 [some (.ref 142), some (.int lo), some (.int hi), some (.int (fo (owM (mI m (q + 7)) n (mI m q 4) lo hi t) (owF (mI m (q + 7)) n (mI m q 4) lo hi t) s)), some (.int (nI t)), some (.int (nI s)), none] [] m 0 0 Q := by
  intro j
  induction j with
  | zero => intro s h1 h2; omega
  | succ j ih =>
    intro s h1 h2
    refine J_w z263 (i := 11) (by decide) 114 ?_
    refine And.intro (fun cz13 => ?_) (fun cz13 => ?_)
    · -- 13 taken: nI 5 ≤ nI s
      have kz13 : 5 ≤ s := kle (a := 5) (b := s) rfl rfl (by omega) (by omega) cz13
      show Jj sc d 0 0 (mth 263) (pg P263 4).1 [some (.ref 142), some (.int lo), some (.int hi), some (.int (fo (owM (mI m (q + 7)) n (mI m q 4) lo hi t) (owF (mI m (q + 7)) n (mI m q 4) lo hi t) s)), some (.int (nI t + nI 1)), some (.int (nI s)), none] [] m 0 0 Q
      rw [show nI t + nI 1 = nI (t + 1) from by simp only [nI_add, pk_mul]]
      refine J_wk (L' := [some (.ref 142), some (.int lo), some (.int hi), some (.int (fo (owM (mI m (q + 7)) n (mI m q 4) lo hi t) (owF (mI m (q + 7)) n (mI m q 4) lo hi t) s)), some (.int (nI (t + 1))), none, none]) ⟨rfl, rfl, rfl, rfl, rfl, trivial⟩ ?_
      rw [show s = 5 by omega]
      exact hk
    · -- 13 not: ¬ nI 5 ≤ nI s
      have kz13 : s < 5 := knle (a := 5) (b := s) rfl rfl (by omega) (by omega) cz13
      show Jj sc d 0 0 (mth 263) (pg P263 16).1 [some (.ref 142), some (.int lo), some (.int hi), some (.int (fo (owM (mI m (q + 7)) n (mI m q 4) lo hi t) (owF (mI m (q + 7)) n (mI m q 4) lo hi t) s)), some (.int (nI t)), some (.int (nI s)), some (.int (nI 0))] [] m 0 0 Q
      exact lowd_a (by omega) hW hN h158 hq hn hn6 hnt hnt6 ht kz13 (ih (s + 1) (by omega) (by omega)) 25 0 (by decide) (by decide)
theorem lowd_c {sc : Nat × (Nat → Int32)} {d : Nat} {m : Mm} {Q : Option Value → Mm → Prop} {q n nt : Nat} (hd : 3 ≤ d) (hW : Wd m.2.2) (hN : NW m.2.2 q) (h158 : 158 ≤ q) (hq : va_rf (mR m 142 3) = .ref q) (hn : mI m q 6 = nI n) (hn6 : n ≤ 6) (hnt : mI m q 5 = nI nt) (hnt6 : nt ≤ 6) {lo hi : Int32} (hQ : Q (some (.int (owF (mI m (q + 7)) n (mI m q 4) lo hi nt))) m)  : ∀ (j t : Nat), t ≤ nt → nt + 1 ≤ t + j → Jj sc d 0 0 (mth 263) (pg P263 4).1 [some (.ref 142), some (.int lo), some (.int hi), some (.int (owF (mI m (q + 7)) n (mI m q 4) lo hi t)), some (.int (nI t)), none, none] [] m 0 0 Q := by
  intro j
  induction j with
  | zero => intro t h1 h2; omega
  | succ j ih =>
    intro t h1 h2
    refine J_w z263 (i := 4) (by decide) 114 ?_
    refine And.intro (Wdo_142 hW) (Exists.intro _ (And.intro hq ?_))
    refine And.intro (NWo_0 hN) ?_
    rw [hnt]
    refine And.intro (fun cz8 => ?_) (fun cz8 => ?_)
    · -- 8 taken: nI nt ≤ nI t
      have kz8 : nt ≤ t := kle (a := nt) (b := t) rfl rfl (by omega) (by omega) cz8
      refine And.intro ⟨rfl, trivial, Nat.le_refl _, Nat.le_refl _⟩ ?_
      rw [show t = nt by omega]
      exact hQ
    · -- 8 not: ¬ nI nt ≤ nI t
      have kz8 : t < nt := knle (a := nt) (b := t) rfl rfl (by omega) (by omega) cz8
      show Jj sc d 0 0 (mth 263) (pg P263 11).1 [some (.ref 142), some (.int lo), some (.int hi), some (.int (owF (mI m (q + 7)) n (mI m q 4) lo hi t)), some (.int (nI t)), some (.int (nI 0)), none] [] m 0 0 Q
      exact lowd_b (by omega) hW hN h158 hq hn hn6 hnt hnt6 kz8 (ih (t + 1) (by omega) (by omega)) 6 0 (by decide) (by decide)
theorem C263 {d : Nat} {m : Mm} {Q : Option Value → Mm → Prop} {q n nt : Nat} (hd : 3 ≤ d) (hW : Wd m.2.2) (hN : NW m.2.2 q) (h158 : 158 ≤ q) (hq : va_rf (mR m 142 3) = .ref q) (hn : mI m q 6 = nI n) (hn6 : n ≤ 6) (hnt : mI m q 5 = nI nt) (hnt6 : nt ≤ 6) {lo hi : Int32} (hQ : Q (some (.int (owF (mI m (q + 7)) n (mI m q 4) lo hi nt))) m) : Cc d 0 0 263 [.ref 142, .int lo, .int hi] m Q := by
  refine ent (n := 114) z263 (by decide) rfl (by decide) (Nat.le_of_ble_eq_true rfl) (fun sc => ?_)
  show Jj sc d 0 0 (mth 263) (pg P263 4).1 [some (.ref 142), some (.int lo), some (.int hi), some (.int (nI 0)), some (.int (nI 0)), none, none] [] m 0 0 Q
  exact lowd_c (by omega) hW hN h158 hq hn hn6 hnt hnt6 hQ (nt + 1) 0 (Nat.zero_le _) (by omega)
