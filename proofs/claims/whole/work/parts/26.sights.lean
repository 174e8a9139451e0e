/-! ===== what was seen ===== -/
abbrev siP (sn off : Nat → Int32) (g i : Nat) : Prop := bq (off ((g * 6 + nv (sn (i * 4))) * 5 + nv (sn (i * 4 + 1)))) (sn (i * 4 + 2)) ↔ sn (i * 4 + 3) = nI 1
abbrev fiP (sn off : Nat → Int32) (ns g : Nat) : Prop := ∀ i, i < ns → siP sn off g i
theorem lq88 {sc : Nat × (Nat → Int32)} {d : Nat} {m : Mm} {Q : Option Value → Mm → Prop} {a ns : Nat} (hL : LW m.2.2 a) (hns : mI m (a + 1) 12 = nI ns) (hns8 : ns ≤ 8) (hse : ∀ i, i < ns → iR (mI m (a + 14) (i * 4)) 6 ∧ iR (mI m (a + 14) (i * 4 + 1)) 5) {g : Nat} (hd : 1 ≤ d) (hg : g < 6) (hQ : Q (some (.int (bi (fiP (mI m (a + 14)) (mI m (a + 7)) ns g)))) m)  : ∀ (j i : Nat), i ≤ ns → ns + 1 ≤ i + j → (∀ i1, i1 < i → siP (mI m (a + 14)) (mI m (a + 7)) g i1) → Jj sc d 0 0 (mth 88) (pg P88 2).1 [some (.ref a), some (.int (nI g)), some (.int (nI i)), none, none] [] m 0 0 Q := by
  intro j
  induction j with
  | zero => intro i h1 h2 hall; omega
  | succ j ih =>
    intro i h1 h2 hall
    refine J_w z88 (i := 2) (by decide) 122 ?_
    refine And.intro (LWo_0 hL) (Exists.intro _ (And.intro (LWr_0_4 hL) ?_))
    refine And.intro (LWi_1 hL (vi rfl (by omega))) ?_
    rw [nI_clamp (show 12 < 2 ^ 31 by omega)]
    rw [hns]
    refine And.intro (fun cz7 => ?_) (fun cz7 => ?_)
    · -- 7 taken: nI ns ≤ nI i
      have kz7 : ns ≤ i := kle (a := ns) (b := i) rfl rfl (by omega) (by omega) cz7
      refine And.intro ⟨rfl, Or.inr rfl, Nat.le_refl _, Nat.le_refl _⟩ ?_
      rw [show i = ns by omega] at hall
      rw [bi_t hall] at hQ; exact hQ
    · -- 7 not: ¬ nI ns ≤ nI i
      have kz7 : i < ns := knle (a := ns) (b := i) rfl rfl (by omega) (by omega) cz7
      have h40 := iR_e (hse i (by omega)).1 (by decide)
      have h41 := iR_e (hse i (by omega)).2 (by decide)
      refine And.intro (LWo_0 hL) (Exists.intro _ (And.intro (LWr_0_17 hL) ?_))
      have ez17 : nI i * nI 4 = nI (i * 4) := by simp only [nI_add, pk_mul]
      refine And.intro (LWi_14 hL (vi ez17 (by omega))) ?_
      rw [vc ez17 (by omega)]
      rw [h40.1]
      refine And.intro (LWo_0 hL) (Exists.intro _ (And.intro (LWr_0_17 hL) ?_))
      have ez23 : (nI i * nI 4) + nI 1 = nI (i * 4 + 1) := by simp only [nI_add, pk_mul]
      refine And.intro (LWi_14 hL (vi ez23 (by omega))) ?_
      rw [vc ez23 (by omega)]
      rw [h41.1]
      refine And.intro (LWo_0 hL) (Exists.intro _ (And.intro (LWr_0_17 hL) ?_))
      have ez29 : (nI i * nI 4) + nI 2 = nI (i * 4 + 2) := by simp only [nI_add, pk_mul]
      refine And.intro (LWi_14 hL (vi ez29 (by omega))) ?_
      rw [vc ez29 (by omega)]
      refine And.intro ⟨by omega, Nat.le_of_ble_eq_true rfl, Nat.le_refl _, Nat.le_refl _⟩ (And.intro (LWo_0 hL) ?_)
      refine C31 (g := g) (t := (nv (mI m (a + 14) (i * 4)))) (s := (nv (mI m (a + 14) (i * 4 + 1)))) hL (by omega) (by omega) (by omega) ?_
      refine And.intro (LWo_0 hL) (Exists.intro _ (And.intro (LWr_0_17 hL) ?_))
      have ez38 : (nI i * nI 4) + nI 3 = nI (i * 4 + 3) := by simp only [nI_add, pk_mul]
      refine And.intro (LWi_14 hL (vi ez38 (by omega))) ?_
      rw [vc ez38 (by omega)]
      refine And.intro (fun cz40 => ?_) (fun cz40 => ?_)
      · -- 40 taken: ¬ mI m (a + 14) (i * 4 + 3) = nI 1
        refine And.intro (fun cz44 => ?_) (fun cz44 => ?_)
        · -- 44 taken: bi (bq (mI m (a + 7) ((g * 6 + ((nv (mI m (a + 14) (i * 4))))) * 5 + ((nv (mI m (a + 14) (i * 4 + 1)))))) (mI m (a + 14) (i * 4 + 2))) = nI 0
          show Jj sc d 0 0 (mth 88) (pg P88 2).1 [some (.ref a), some (.int (nI g)), some (.int (nI i + nI 1)), some (.int (nI i * nI 4)), some (.int (bi (bq (mI m (a + 7) ((g * 6 + ((nv (mI m (a + 14) (i * 4))))) * 5 + ((nv (mI m (a + 14) (i * 4 + 1)))))) (mI m (a + 14) (i * 4 + 2)))))] [] m 0 0 Q
          rw [show nI i + nI 1 = nI (i + 1) from by simp only [nI_add, pk_mul]]
          rw [show nI i * nI 4 = nI (i * 4) from by simp only [nI_add, pk_mul]]
          refine J_wk (L' := [some (.ref a), some (.int (nI g)), some (.int (nI (i + 1))), none, none]) ⟨rfl, rfl, rfl, trivial⟩ ?_
          have hall2 : ∀ i1, i1 < i + 1 → siP (mI m (a + 14)) (mI m (a + 7)) g i1 := by
            intro v9 h9
            rcases Nat.lt_or_ge v9 i with q9 | q9
            · exact hall v9 q9
            · have ez9 : v9 = i := by omega
              rw [ez9]
              exact ⟨fun y => absurd (bi_t y) (by rw [cz44]; decide), fun y => absurd y cz40⟩
          exact ih (i + 1) (by omega) (by omega) hall2
        · -- 44 not: ¬ bi (bq (mI m (a + 7) ((g * 6 + ((nv (mI m (a + 14) (i * 4))))) * 5 + ((nv (mI m (a + 14) (i * 4 + 1)))))) (mI m (a + 14) (i * 4 + 2))) = nI 0
          refine And.intro ⟨rfl, Or.inl rfl, Nat.le_refl _, Nat.le_refl _⟩ ?_
          rw [bi_f (fun z => cz44 (bi_f (fun y => cz40 ((z i (by omega)).mp y))))] at hQ; exact hQ
      · -- 40 not: mI m (a + 14) (i * 4 + 3) = nI 1
        refine And.intro (fun cz44 => ?_) (fun cz44 => ?_)
        · -- 44 taken: bi (bq (mI m (a + 7) ((g * 6 + ((nv (mI m (a + 14) (i * 4))))) * 5 + ((nv (mI m (a + 14) (i * 4 + 1)))))) (mI m (a + 14) (i * 4 + 2))) = nI 1
          show Jj sc d 0 0 (mth 88) (pg P88 2).1 [some (.ref a), some (.int (nI g)), some (.int (nI i + nI 1)), some (.int (nI i * nI 4)), some (.int (bi (bq (mI m (a + 7) ((g * 6 + ((nv (mI m (a + 14) (i * 4))))) * 5 + ((nv (mI m (a + 14) (i * 4 + 1)))))) (mI m (a + 14) (i * 4 + 2)))))] [] m 0 0 Q
          rw [show nI i + nI 1 = nI (i + 1) from by simp only [nI_add, pk_mul]]
          rw [show nI i * nI 4 = nI (i * 4) from by simp only [nI_add, pk_mul]]
          refine J_wk (L' := [some (.ref a), some (.int (nI g)), some (.int (nI (i + 1))), none, none]) ⟨rfl, rfl, rfl, trivial⟩ ?_
          have hall2 : ∀ i1, i1 < i + 1 → siP (mI m (a + 14)) (mI m (a + 7)) g i1 := by
            intro v9 h9
            rcases Nat.lt_or_ge v9 i with q9 | q9
            · exact hall v9 q9
            · have ez9 : v9 = i := by omega
              rw [ez9]
              exact ⟨fun _ => cz40, fun _ => bi_eq1.mp cz44⟩
          exact ih (i + 1) (by omega) (by omega) hall2
        · -- 44 not: ¬ bi (bq (mI m (a + 7) ((g * 6 + ((nv (mI m (a + 14) (i * 4))))) * 5 + ((nv (mI m (a + 14) (i * 4 + 1)))))) (mI m (a + 14) (i * 4 + 2))) = nI 1
          refine And.intro ⟨rfl, Or.inl rfl, Nat.le_refl _, Nat.le_refl _⟩ ?_
          rw [bi_f (fun z => cz44 (bi_t ((z i (by omega)).mpr cz40)))] at hQ; exact hQ
theorem C88 {d : Nat} {m : Mm} {Q : Option Value → Mm → Prop} {a ns : Nat} (hL : LW m.2.2 a) (hns : mI m (a + 1) 12 = nI ns) (hns8 : ns ≤ 8) (hse : ∀ i, i < ns → iR (mI m (a + 14) (i * 4)) 6 ∧ iR (mI m (a + 14) (i * 4 + 1)) 5) {g : Nat} (hd : 1 ≤ d) (hg : g < 6) (hQ : Q (some (.int (bi (fiP (mI m (a + 14)) (mI m (a + 7)) ns g)))) m) : Cc d 0 0 88 [.ref a, .int (nI g)] m Q := by
  refine ent (n := 122) z88 (by decide) rfl (by decide) (Nat.le_of_ble_eq_true rfl) (fun sc => ?_)
  show Jj sc d 0 0 (mth 88) (pg P88 2).1 [some (.ref a), some (.int (nI g)), some (.int (nI 0)), none, none] [] m 0 0 Q
  exact lq88 hL hns hns8 hse hd hg hQ (ns + 1) 0 (Nat.zero_le _) (by omega) (fun _ h => absurd h (by omega))
noncomputable def ftS (sn off : Nat → Int32) (ns : Nat) : Nat → Int32 → Int32 := fun g y => if bi (fiP sn off ns g) = 0 then y else y ||| nI 1 <<< (nI g &&& 31)
noncomputable def ftQ (sn off : Nat → Int32) (ns g : Nat) : Int32 := fo (ftS sn off ns) (nI 0) g
theorem ftQ_s {sn off : Nat → Int32} {ns g : Nat} : ftQ sn off ns (g + 1) = ftS sn off ns g (ftQ sn off ns g) := fo_s
theorem lq87 {sc : Nat × (Nat → Int32)} {d : Nat} {m : Mm} {Q : Option Value → Mm → Prop} {a ns : Nat} (hL : LW m.2.2 a) (hns : mI m (a + 1) 12 = nI ns) (hns8 : ns ≤ 8) (hse : ∀ i, i < ns → iR (mI m (a + 14) (i * 4)) 6 ∧ iR (mI m (a + 14) (i * 4 + 1)) 5) {n : Nat} (hn : mI m (a + 1) 4 = nI n) (hn6 : n ≤ 6) (hd : 2 ≤ d) (hQ : Q (some (.int (ftQ (mI m (a + 14)) (mI m (a + 7)) ns n))) m)  : ∀ (j g : Nat), g ≤ n → n + 1 ≤ g + j → Jj sc d 0 0 (mth 87) (pg P87 4).1 [some (.ref a), some (.int (ftQ (mI m (a + 14)) (mI m (a + 7)) ns g)), some (.int (nI g))] [] m 0 0 Q := by
  intro j
  induction j with
  | zero => intro g h1 h2; omega
  | succ j ih =>
    intro g h1 h2
    refine J_w z87 (i := 4) (by decide) 64 ?_
    refine And.intro ⟨by omega, Nat.le_of_ble_eq_true rfl, Nat.le_refl _, Nat.le_refl _⟩ (And.intro (LWo_0 hL) ?_)
    refine C23 hL ?_
    rw [hn]
    refine And.intro (fun cz7 => ?_) (fun cz7 => ?_)
    · -- 7 taken: nI n ≤ nI g
      have kz7 : n ≤ g := kle (a := n) (b := g) rfl rfl (by omega) (by omega) cz7
      refine And.intro ⟨rfl, trivial, Nat.le_refl _, Nat.le_refl _⟩ ?_
      rw [show g = n by omega]
      exact hQ
    · -- 7 not: ¬ nI n ≤ nI g
      have kz7 : g < n := knle (a := n) (b := g) rfl rfl (by omega) (by omega) cz7
      refine And.intro ⟨by omega, Nat.le_of_ble_eq_true rfl, Nat.le_refl _, Nat.le_refl _⟩ ?_
      refine C88 (g := g) hL hns hns8 hse (by omega) (by omega) ?_
      refine And.intro (fun cz11 => ?_) (fun cz11 => ?_)
      · -- 11 taken: bi (fiP (mI m (a + 14)) (mI m (a + 7)) ns g) = 0
        show Jj sc d 0 0 (mth 87) (pg P87 4).1 [some (.ref a), some (.int (ftQ (mI m (a + 14)) (mI m (a + 7)) ns g)), some (.int (nI g + nI 1))] [] m 0 0 Q
        rw [show nI g + nI 1 = nI (g + 1) from by simp only [nI_add, pk_mul]]
        have z := ih (g + 1) (by omega) (by omega)
        rw [ftQ_s] at z
        unfold ftS at z
        rw [if_pos cz11] at z
        exact z
      · -- 11 not: ¬ bi (fiP (mI m (a + 14)) (mI m (a + 7)) ns g) = 0
        show Jj sc d 0 0 (mth 87) (pg P87 4).1 [some (.ref a), some (.int ((ftQ (mI m (a + 14)) (mI m (a + 7)) ns g) ||| (nI 1 <<< (nI g &&& 31)))), some (.int (nI g + nI 1))] [] m 0 0 Q
        rw [show nI g + nI 1 = nI (g + 1) from by simp only [nI_add, pk_mul]]
        have z := ih (g + 1) (by omega) (by omega)
        rw [ftQ_s] at z
        unfold ftS at z
        rw [if_neg cz11] at z
        exact z
theorem C87 {d : Nat} {m : Mm} {Q : Option Value → Mm → Prop} {a ns : Nat} (hL : LW m.2.2 a) (hns : mI m (a + 1) 12 = nI ns) (hns8 : ns ≤ 8) (hse : ∀ i, i < ns → iR (mI m (a + 14) (i * 4)) 6 ∧ iR (mI m (a + 14) (i * 4 + 1)) 5) {n : Nat} (hn : mI m (a + 1) 4 = nI n) (hn6 : n ≤ 6) (hd : 2 ≤ d) (hQ : Q (some (.int (ftQ (mI m (a + 14)) (mI m (a + 7)) ns n))) m) : Cc d 0 0 87 [.ref a] m Q := by
  refine ent (n := 64) z87 (by decide) rfl (by decide) (Nat.le_of_ble_eq_true rfl) (fun sc => ?_)
  show Jj sc d 0 0 (mth 87) (pg P87 4).1 [some (.ref a), some (.int (nI 0)), some (.int (nI 0))] [] m 0 0 Q
  exact lq87 hL hns hns8 hse hn hn6 hd hQ (n + 1) 0 (Nat.zero_le _) (by omega)
def bhF (off : Nat → Int32) (n : Nat) (ft : Int32) (t s u : Nat) : Int32 := if bcF (ft &&& hoF off t s (nI u) n) < bcF ft - bcF (ft &&& hoF off t s (nI u) n) then bcF ft - bcF (ft &&& hoF off t s (nI u) n) else bcF (ft &&& hoF off t s (nI u) n)
def skS (off : Nat → Int32) (n : Nat) (ft : Int32) (t s : Nat) : Nat → (Nat → Nat → Int32) → Nat → Nat → Int32 := fun u D => if D 0 1 ≤ bhF off n ft t s u then D else ud (ud D 0 1 (bhF off n ft t s u)) 0 0 (nI 1000 * nI t + nI 100 * nI s + nI u)
def skQ (off : Nat → Int32) (n : Nat) (ft : Int32) (t s : Nat) (D : Nat → Nat → Int32) (u : Nat) : Nat → Nat → Int32 := fo (skS off n ft t s) D u
theorem skQ_s {off : Nat → Int32} {n : Nat} {ft : Int32} {t s : Nat} {D : Nat → Nat → Int32} {u : Nat} : skQ off n ft t s D (u + 1) = skS off n ft t s u (skQ off n ft t s D u) := fo_s
theorem skQ_0 {off : Nat → Int32} {n : Nat} {ft : Int32} {t s : Nat} {D : Nat → Nat → Int32} : skQ off n ft t s D 0 = D := rfl
def smS (off : Nat → Int32) (n : Nat) (ft gr : Int32) (t : Nat) : Nat → (Nat → Nat → Int32) → Nat → Nat → Int32 := fun s D => if bq gr (nI s) then skQ off n ft t s D 24 else D
def smQ (off : Nat → Int32) (n : Nat) (ft gr : Int32) (t : Nat) (D : Nat → Nat → Int32) (s : Nat) : Nat → Nat → Int32 := fo (smS off n ft gr t) D s
theorem smQ_s {off : Nat → Int32} {n : Nat} {ft gr : Int32} {t : Nat} {D : Nat → Nat → Int32} {s : Nat} : smQ off n ft gr t D (s + 1) = smS off n ft gr t s (smQ off n ft gr t D s) := fo_s
theorem smQ_0 {off : Nat → Int32} {n : Nat} {ft gr : Int32} {t : Nat} {D : Nat → Nat → Int32} : smQ off n ft gr t D 0 = D := rfl
def stS (off : Nat → Int32) (n : Nat) (ft gr : Int32) : Nat → (Nat → Nat → Int32) → Nat → Nat → Int32 := fun t D => smQ off n ft gr t D 5
def stQ (off : Nat → Int32) (n : Nat) (ft gr : Int32) (D : Nat → Nat → Int32) (t : Nat) : Nat → Nat → Int32 := fo (stS off n ft gr) D t
theorem stQ_s {off : Nat → Int32} {n : Nat} {ft gr : Int32} {D : Nat → Nat → Int32} {t : Nat} : stQ off n ft gr D (t + 1) = stS off n ft gr t (stQ off n ft gr D t) := fo_s
theorem stQ_0 {off : Nat → Int32} {n : Nat} {ft gr : Int32} {D : Nat → Nat → Int32} : stQ off n ft gr D 0 = D := rfl
theorem stS_e {off : Nat → Int32} {n : Nat} {ft gr : Int32} {D : Nat → Nat → Int32} {t : Nat} : stS off n ft gr t D = smQ off n ft gr t D 5 := rfl
/-- where it is asked, and how many fit at most -/
def skZ (D : Nat → Nat → Int32) : Nat → Nat → Int32 := ud (ud D 0 0 (-nI 2)) 0 1 (nI 7)
theorem lq89a {sc : Nat × (Nat → Int32)} {d : Nat} {m : Mm} {Q : Option Value → Mm → Prop} {a n nt : Nat} (hd : 3 ≤ d) (hW : Wd m.2.2) (hL : LW m.2.2 a) (ha : a + 19 ≤ 136) (hnt : mI m (a + 1) 2 = nI nt) (hnt6 : nt ≤ 6) (hn : mI m (a + 1) 4 = nI n) (hn6 : n ≤ 6) {ft gr : Int32} {D : Nat → Nat → Int32} {t s : Nat} (ht : t < nt) (hs : s < 5) (hon : bq gr (nI s)) (hk : Jj sc d 0 0 (mth 89) (pg P89 20).1 [some (.ref 141), some (.ref a), some (.int ft), some (.int gr), some (.int (nI t)), some (.int (nI (s + 1))), none, none, none] [] (bput m 141 1 (skQ (mI m (a + 7)) n ft t s D 24)) 0 0 Q)  : ∀ (j u : Nat), u ≤ 24 → 24 + 1 ≤ u + j → Jj sc d 0 0 (mth 89) (pg P89 25).1 [some (.ref 141), some (.ref a), some (.int ft), some (.int gr), some (.int (nI t)), some (.int (nI s)), some (.int (nI u)), none, none] [] (bput m 141 1 (skQ (mI m (a + 7)) n ft t s D u)) 0 0 Q := by
  intro j
  induction j with
  | zero => intro u h1 h2; omega
  | succ j ih =>
    intro u h1 h2
    refine J_w z89 (i := 25) (by decide) 172 ?_
    refine And.intro (fun cz27 => ?_) (fun cz27 => ?_)
    · -- 27 taken: nI 24 ≤ nI u
      have kz27 : 24 ≤ u := kle (a := 24) (b := u) rfl rfl (by omega) (by omega) cz27
      show Jj sc d 0 0 (mth 89) (pg P89 20).1 [some (.ref 141), some (.ref a), some (.int ft), some (.int gr), some (.int (nI t)), some (.int (nI s + nI 1)), some (.int (nI u)), none, none] [] (bput m 141 1 (skQ (mI m (a + 7)) n ft t s D u)) 0 0 Q
      rw [show nI s + nI 1 = nI (s + 1) from by simp only [nI_add, pk_mul]]
      refine J_wk (L' := [some (.ref 141), some (.ref a), some (.int ft), some (.int gr), some (.int (nI t)), some (.int (nI (s + 1))), none, none, none]) ⟨rfl, rfl, rfl, rfl, rfl, rfl, trivial⟩ ?_
      rw [show u = 24 by omega]
      exact hk
    · -- 27 not: ¬ nI 24 ≤ nI u
      have kz27 : u < 24 := knle (a := 24) (b := u) rfl rfl (by omega) (by omega) cz27
      refine And.intro (fun cz34 => False.elim (cz34 hon)) (fun cz34 => ?_)
      refine And.intro ⟨by omega, Nat.le_of_ble_eq_true rfl, Nat.le_refl _, Nat.le_refl _⟩ (And.intro (LWo_0 hL) ?_)
      refine C32 (m := (bput m 141 1 (skQ (mI m (a + 7)) n ft t s D u))) (t := t) (s := s) (n := n) (by omega) hL (by omega) (by omega) (by rw [bput_lo (by omega)]; exact hn) hn6 ?_
      rw [bput_lo (m := m) (x := 141) (n := 1) (D := (skQ (mI m (a + 7)) n ft t s D u)) (b := (a + 7)) (by omega)]
      refine And.intro ⟨by omega, Nat.le_of_ble_eq_true rfl, Nat.le_refl _, Nat.le_refl _⟩ ?_
      refine C340 (m := (bput m 141 1 (skQ (mI m (a + 7)) n ft t s D u))) ?_
      refine And.intro ⟨by omega, Nat.le_of_ble_eq_true rfl, Nat.le_refl _, Nat.le_refl _⟩ ?_
      refine C340 (m := (bput m 141 1 (skQ (mI m (a + 7)) n ft t s D u))) ?_
      refine And.intro ⟨by omega, Nat.le_of_ble_eq_true rfl, Nat.le_refl _, Nat.le_refl _⟩ ?_
      refine And.intro (Wdo_141 hW) ?_
      rw [bput_0 (x := 141) (by decide)]
      refine And.intro (fun cz54 => ?_) (fun cz54 => ?_)
      · -- 54 taken: (skQ (mI m (a + 7)) n ft t s D u) 0 1 ≤ if bcF (ft &&& (hoF (mI m (a + 7)) t s (nI u) n)) < (bcF ft) - (bcF (ft &&& (hoF (mI m (a + 7)) t s (nI u) n))) then (bcF ft) - (bcF (ft &&& (hoF (mI m (a + 7)) t s (nI u) n))) else bcF (ft &&& (hoF (mI m (a + 7)) t s (nI u) n))
        show Jj sc d 0 0 (mth 89) (pg P89 25).1 [some (.ref 141), some (.ref a), some (.int ft), some (.int gr), some (.int (nI t)), some (.int (nI s)), some (.int (nI u + nI 1)), some (.int (bcF (ft &&& (hoF (mI m (a + 7)) t s (nI u) n)))), some (.int (if bcF (ft &&& (hoF (mI m (a + 7)) t s (nI u) n)) < (bcF ft) - (bcF (ft &&& (hoF (mI m (a + 7)) t s (nI u) n))) then (bcF ft) - (bcF (ft &&& (hoF (mI m (a + 7)) t s (nI u) n))) else bcF (ft &&& (hoF (mI m (a + 7)) t s (nI u) n))))] [] (bput m 141 1 (skQ (mI m (a + 7)) n ft t s D u)) 0 0 Q
        rw [show nI u + nI 1 = nI (u + 1) from by simp only [nI_add, pk_mul]]
        refine J_wk (L' := [some (.ref 141), some (.ref a), some (.int ft), some (.int gr), some (.int (nI t)), some (.int (nI s)), some (.int (nI (u + 1))), none, none]) ⟨rfl, rfl, rfl, rfl, rfl, rfl, rfl, trivial⟩ ?_
        have z := ih (u + 1) (by omega) (by omega)
        rw [skQ_s] at z
        unfold skS at z
        rw [if_pos (show (skQ (mI m (a + 7)) n ft t s D u) 0 1 ≤ bhF (mI m (a + 7)) n ft t s u from cz54)] at z
        exact z
      · -- 54 not: ¬ (skQ (mI m (a + 7)) n ft t s D u) 0 1 ≤ if bcF (ft &&& (hoF (mI m (a + 7)) t s (nI u) n)) < (bcF ft) - (bcF (ft &&& (hoF (mI m (a + 7)) t s (nI u) n))) then (bcF ft) - (bcF (ft &&& (hoF (mI m (a + 7)) t s (nI u) n))) else bcF (ft &&& (hoF (mI m (a + 7)) t s (nI u) n))
        refine And.intro (Wdo_141 hW) ?_
        rw [bput_u0 (x := 141) (by decide)]
        refine And.intro (Wdo_141 hW) ?_
        rw [bput_u0 (x := 141) (by decide)]
        show Jj sc d 0 0 (mth 89) (pg P89 25).1 [some (.ref 141), some (.ref a), some (.int ft), some (.int gr), some (.int (nI t)), some (.int (nI s)), some (.int (nI u + nI 1)), some (.int (bcF (ft &&& (hoF (mI m (a + 7)) t s (nI u) n)))), some (.int (if bcF (ft &&& (hoF (mI m (a + 7)) t s (nI u) n)) < (bcF ft) - (bcF (ft &&& (hoF (mI m (a + 7)) t s (nI u) n))) then (bcF ft) - (bcF (ft &&& (hoF (mI m (a + 7)) t s (nI u) n))) else bcF (ft &&& (hoF (mI m (a + 7)) t s (nI u) n))))] [] (bput m 141 1 (ud (ud (skQ (mI m (a + 7)) n ft t s D u) 0 1 (if bcF (ft &&& (hoF (mI m (a + 7)) t s (nI u) n)) < (bcF ft) - (bcF (ft &&& (hoF (mI m (a + 7)) t s (nI u) n))) then (bcF ft) - (bcF (ft &&& (hoF (mI m (a + 7)) t s (nI u) n))) else bcF (ft &&& (hoF (mI m (a + 7)) t s (nI u) n)))) 0 0 (((nI 1000 * nI t) + (nI 100 * nI s)) + nI u))) 0 0 Q
        rw [show nI u + nI 1 = nI (u + 1) from by simp only [nI_add, pk_mul]]
        refine J_wk (L' := [some (.ref 141), some (.ref a), some (.int ft), some (.int gr), some (.int (nI t)), some (.int (nI s)), some (.int (nI (u + 1))), none, none]) ⟨rfl, rfl, rfl, rfl, rfl, rfl, rfl, trivial⟩ ?_
        have z := ih (u + 1) (by omega) (by omega)
        rw [skQ_s] at z
        unfold skS at z
        rw [if_neg (show ¬ (skQ (mI m (a + 7)) n ft t s D u) 0 1 ≤ bhF (mI m (a + 7)) n ft t s u from cz54)] at z
        exact z
theorem lq89z {sc : Nat × (Nat → Int32)} {d : Nat} {m : Mm} {Q : Option Value → Mm → Prop} {a n nt : Nat} (hd : 3 ≤ d) (hW : Wd m.2.2) (hL : LW m.2.2 a) (ha : a + 19 ≤ 136) (hnt : mI m (a + 1) 2 = nI nt) (hnt6 : nt ≤ 6) (hn : mI m (a + 1) 4 = nI n) (hn6 : n ≤ 6) {ft gr : Int32} {D : Nat → Nat → Int32} {t s : Nat} (hoff : ¬ bq gr (nI s)) (hk : Jj sc d 0 0 (mth 89) (pg P89 20).1 [some (.ref 141), some (.ref a), some (.int ft), some (.int gr), some (.int (nI t)), some (.int (nI (s + 1))), none, none, none] [] (bput m 141 1 D) 0 0 Q)  : Jj sc d 0 0 (mth 89) (pg P89 25).1 [some (.ref 141), some (.ref a), some (.int ft), some (.int gr), some (.int (nI t)), some (.int (nI s)), some (.int (nI 0)), none, none] [] (bput m 141 1 D) 0 0 Q := by
  refine J_w z89 (i := 25) (by decide) 172 ?_
  refine And.intro (fun cz27 => False.elim (absurd cz27 (by decide))) (fun cz27 => ?_)
  refine And.intro (fun cz34 => ?_) (fun cz34 => False.elim (hoff cz34))
  show Jj sc d 0 0 (mth 89) (pg P89 20).1 [some (.ref 141), some (.ref a), some (.int ft), some (.int gr), some (.int (nI t)), some (.int (nI s + nI 1)), some (.int (nI 0)), none, none] [] (bput m 141 1 D) 0 0 Q
  rw [show nI s + nI 1 = nI (s + 1) from by simp only [nI_add, pk_mul]]
  refine J_wk (L' := [some (.ref 141), some (.ref a), some (.int ft), some (.int gr), some (.int (nI t)), some (.int (nI (s + 1))), none, none, none]) ⟨rfl, rfl, rfl, rfl, rfl, rfl, trivial⟩ ?_
  exact hk
theorem lq89b {sc : Nat × (Nat → Int32)} {d : Nat} {m : Mm} {Q : Option Value → Mm → Prop} {a n nt : Nat} (hd : 3 ≤ d) (hW : Wd m.2.2) (hL : LW m.2.2 a) (ha : a + 19 ≤ 136) (hnt : mI m (a + 1) 2 = nI nt) (hnt6 : nt ≤ 6) (hn : mI m (a + 1) 4 = nI n) (hn6 : n ≤ 6) {ft gr : Int32} {D : Nat → Nat → Int32} {t : Nat} (ht : t < nt) (hk : Jj sc d 0 0 (mth 89) (pg P89 14).1 [some (.ref 141), some (.ref a), some (.int ft), some (.int gr), some (.int (nI (t + 1))), none, none, none, none] [] (bput m 141 1 (smQ (mI m (a + 7)) n ft gr t D 5)) 0 0 Q)  : ∀ (j s : Nat), s ≤ 5 → 5 + 1 ≤ s + j → Jj sc d 0 0 (mth 89) (pg P89 20).1 [some (.ref 141), some (.ref a), some (.int ft), some (.int gr), some (.int (nI t)), some (.int (nI s)), none, none, none] [] (bput m 141 1 (smQ (mI m (a + 7)) n ft gr t D s)) 0 0 Q := by
  intro j
  induction j with
  | zero => intro s h1 h2; omega
  | succ j ih =>
    intro s h1 h2
    refine J_w z89 (i := 20) (by decide) 172 ?_
    refine And.intro (fun cz22 => ?_) (fun cz22 => ?_)
    · -- 22 taken: nI 5 ≤ nI s
      have kz22 : 5 ≤ s := kle (a := 5) (b := s) rfl rfl (by omega) (by omega) cz22
      show Jj sc d 0 0 (mth 89) (pg P89 14).1 [some (.ref 141), some (.ref a), some (.int ft), some (.int gr), some (.int (nI t + nI 1)), some (.int (nI s)), none, none, none] [] (bput m 141 1 (smQ (mI m (a + 7)) n ft gr t D s)) 0 0 Q
      rw [show nI t + nI 1 = nI (t + 1) from by simp only [nI_add, pk_mul]]
      refine J_wk (L' := [some (.ref 141), some (.ref a), some (.int ft), some (.int gr), some (.int (nI (t + 1))), none, none, none, none]) ⟨rfl, rfl, rfl, rfl, rfl, trivial⟩ ?_
      rw [show s = 5 by omega]
      exact hk
    · -- 22 not: ¬ nI 5 ≤ nI s
      have kz22 : s < 5 := knle (a := 5) (b := s) rfl rfl (by omega) (by omega) cz22
      show Jj sc d 0 0 (mth 89) (pg P89 25).1 [some (.ref 141), some (.ref a), some (.int ft), some (.int gr), some (.int (nI t)), some (.int (nI s)), some (.int (nI 0)), none, none] [] (bput m 141 1 (smQ (mI m (a + 7)) n ft gr t D s)) 0 0 Q
      have z := ih (s + 1) (by omega) (by omega)
      rw [smQ_s] at z
      unfold smS at z
      by_cases hon : bq gr (nI s)
      · rw [if_pos hon] at z
        have z2 := lq89a hd hW hL ha hnt hnt6 hn hn6 ht (by omega) hon z 25 0 (by decide) (by decide)
        rw [skQ_0] at z2
        exact z2
      · rw [if_neg hon] at z
        exact lq89z hd hW hL ha hnt hnt6 hn hn6 hon z
theorem lq89c {sc : Nat × (Nat → Int32)} {d : Nat} {m : Mm} {Q : Option Value → Mm → Prop} {a n nt : Nat} (hd : 3 ≤ d) (hW : Wd m.2.2) (hL : LW m.2.2 a) (ha : a + 19 ≤ 136) (hnt : mI m (a + 1) 2 = nI nt) (hnt6 : nt ≤ 6) (hn : mI m (a + 1) 4 = nI n) (hn6 : n ≤ 6) {ft gr : Int32} {D : Nat → Nat → Int32} (hQ : Q none (bput m 141 1 (stQ (mI m (a + 7)) n ft gr D nt)))  : ∀ (j t : Nat), t ≤ nt → nt + 1 ≤ t + j → Jj sc d 0 0 (mth 89) (pg P89 14).1 [some (.ref 141), some (.ref a), some (.int ft), some (.int gr), some (.int (nI t)), none, none, none, none] [] (bput m 141 1 (stQ (mI m (a + 7)) n ft gr D t)) 0 0 Q := by
  intro j
  induction j with
  | zero => intro t h1 h2; omega
  | succ j ih =>
    intro t h1 h2
    refine J_w z89 (i := 14) (by decide) 172 ?_
    refine And.intro ⟨by omega, Nat.le_of_ble_eq_true rfl, Nat.le_refl _, Nat.le_refl _⟩ (And.intro (LWo_0 hL) ?_)
    refine C22 (m := (bput m 141 1 (stQ (mI m (a + 7)) n ft gr D t))) hL ?_
    rw [bput_lo (m := m) (x := 141) (n := 1) (D := (stQ (mI m (a + 7)) n ft gr D t)) (b := (a + 1)) (by omega)]
    rw [hnt]
    refine And.intro (fun cz17 => ?_) (fun cz17 => ?_)
    · -- 17 taken: nI nt ≤ nI t
      have kz17 : nt ≤ t := kle (a := nt) (b := t) rfl rfl (by omega) (by omega) cz17
      refine And.intro ⟨rfl, rfl, Nat.le_refl _, Nat.le_refl _⟩ ?_
      rw [show t = nt by omega]
      exact hQ
    · -- 17 not: ¬ nI nt ≤ nI t
      have kz17 : t < nt := knle (a := nt) (b := t) rfl rfl (by omega) (by omega) cz17
      show Jj sc d 0 0 (mth 89) (pg P89 20).1 [some (.ref 141), some (.ref a), some (.int ft), some (.int gr), some (.int (nI t)), some (.int (nI 0)), none, none, none] [] (bput m 141 1 (stQ (mI m (a + 7)) n ft gr D t)) 0 0 Q
      have z := ih (t + 1) (by omega) (by omega)
      rw [stQ_s, stS_e] at z
      have z2 := lq89b hd hW hL ha hnt hnt6 hn hn6 (by omega) z 6 0 (by decide) (by decide)
      rw [smQ_0] at z2
      exact z2
theorem D89 {d : Nat} {m : Mm} {Q : Option Value → Mm → Prop} {a n nt : Nat} (hd : 3 ≤ d) (hW : Wd m.2.2) (hL : LW m.2.2 a) (ha : a + 19 ≤ 136) (hnt : mI m (a + 1) 2 = nI nt) (hnt6 : nt ≤ 6) (hn : mI m (a + 1) 4 = nI n) (hn6 : n ≤ 6) {ns w h : Nat} (hw : mI m a 0 = nI w) (hh : mI m a 1 = nI h) (hwh : w * h ≤ 24) (hns : mI m (a + 1) 12 = nI ns) (hns8 : ns ≤ 8) (hse : ∀ i, i < ns → iR (mI m (a + 14) (i * 4)) 6 ∧ iR (mI m (a + 14) (i * 4 + 1)) 5) {D : Nat → Nat → Int32} (hQ : Q none (bput m 141 1 (stQ (mI m (a + 7)) n (ftQ (mI m (a + 14)) (mI m (a + 7)) ns n) (grF (mI m (a + 2)) (w * h)) (skZ D) nt))) : Cc d 0 0 89 [.ref 141, .ref a] (bput m 141 1 D) Q := by
  refine ent (n := 172) z89 (by decide) rfl (by decide) (Nat.le_of_ble_eq_true rfl) (fun sc => ?_)
  refine And.intro ⟨by omega, Nat.le_of_ble_eq_true rfl, Nat.le_refl _, Nat.le_refl _⟩ ?_
  refine C87 (m := (bput m 141 1 D)) (ns := ns) (n := n) hL (by rw [bput_lo (by omega)]; exact hns) hns8 (by rw [bput_lo (by omega)]; exact hse) (by rw [bput_lo (by omega)]; exact hn) hn6 (by omega) ?_
  rw [bput_lo (m := m) (x := 141) (n := 1) (D := D) (b := (a + 14)) (by omega)]
  rw [bput_lo (m := m) (x := 141) (n := 1) (D := D) (b := (a + 7)) (by omega)]
  refine And.intro ⟨by omega, Nat.le_of_ble_eq_true rfl, Nat.le_refl _, Nat.le_refl _⟩ (And.intro (LWo_0 hL) ?_)
  refine C28 (m := (bput m 141 1 D)) (w := w) (h := h) hL (by rw [bput_lo (by omega)]; exact hw) (by rw [bput_lo (by omega)]; exact hh) hwh ?_
  rw [bput_lo (m := m) (x := 141) (n := 1) (D := D) (b := (a + 2)) (by omega)]
  refine And.intro (Wdo_141 hW) ?_
  rw [bput_u0 (x := 141) (by decide)]
  refine And.intro (Wdo_141 hW) ?_
  rw [bput_u0 (x := 141) (by decide)]
  show Jj sc d 0 0 (mth 89) (pg P89 14).1 [some (.ref 141), some (.ref a), some (.int (ftQ (mI m (a + 14)) (mI m (a + 7)) ns n)), some (.int (grF (mI m (a + 2)) (w * h))), some (.int (nI 0)), none, none, none, none] [] (bput m 141 1 (ud (ud D 0 0 (-nI 2)) 0 1 (nI 7))) 0 0 Q
  have z2 := lq89c (sc := sc) hd hW hL ha hnt hnt6 hn hn6 hQ (nt + 1) 0 (Nat.zero_le _) (by omega)
  rw [stQ_0] at z2
  exact z2
