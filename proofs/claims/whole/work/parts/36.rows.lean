abbrev hoP (y s : Int32) (t u : Nat) : Prop := (y = -nI 2 ∨ y = nI t) ∧ (s = -nI 2 ∨ s = nI u)
def hiS (g : Nat) (y s h : Int32) (t : Nat) : Nat → (Nat → Nat → Int32) → Nat → Nat → Int32 := fun u E => if hoP y s t u then ud E 7 ((g * 6 + t) * 5 + u) (E 7 ((g * 6 + t) * 5 + u) ||| h) else E
def hiQ (g : Nat) (y s h : Int32) (t : Nat) (E : Nat → Nat → Int32) (u : Nat) : Nat → Nat → Int32 := fo (hiS g y s h t) E u
theorem hiQ_s {g : Nat} {y s h : Int32} {t : Nat} {E : Nat → Nat → Int32} {u : Nat} : hiQ g y s h t E (u + 1) = hiS g y s h t u (hiQ g y s h t E u) := fo_s
theorem hiQ_0 {g : Nat} {y s h : Int32} {t : Nat} {E : Nat → Nat → Int32} : hiQ g y s h t E 0 = E := rfl
def htS (g : Nat) (y s h : Int32) : Nat → (Nat → Nat → Int32) → Nat → Nat → Int32 := fun t E => hiQ g y s h t E 5
theorem htS_e {g : Nat} {y s h : Int32} {t : Nat} {E : Nat → Nat → Int32} : htS g y s h t E = hiQ g y s h t E 5 := rfl
def htQ (g : Nat) (y s h : Int32) (E : Nat → Nat → Int32) (t : Nat) : Nat → Nat → Int32 := fo (htS g y s h) E t
theorem htQ_s {g : Nat} {y s h : Int32} {E : Nat → Nat → Int32} {t : Nat} : htQ g y s h E (t + 1) = htS g y s h t (htQ g y s h E t) := fo_s
theorem htQ_0 {g : Nat} {y s h : Int32} {E : Nat → Nat → Int32} : htQ g y s h E 0 = E := rfl
theorem lq66a {sc : Nat × (Nat → Int32)} {d : Nat} {m : Mm} {Q : Option Value → Mm → Prop} {b : Nat} {L : Nat → Nat → Int64} (hW : Wd m.2.2) (hB2 : LW m.2.2 b) (hdj : b + 19 ≤ 87 ∨ 87 + 6 ≤ b) {D : Nat → Nat → Int32} {K : Nat → Nat → Int64} {g : Nat} {y s h : Int32} (hd : 1 ≤ d) (hg : g < 6) (hb4 : va_rf (mR m 87 4) = .ref b) {t : Nat} {E : Nat → Nat → Int32} (ht : t < 6) (hk : Jj sc d 0 0 (mth 66) (pg P66 2).1 [some (.ref 87), some (.int (nI g)), some (.int y), some (.int s), some (.int h), some (.int (nI (t + 1))), none] [] (pp m 87 6 D K b 19 (hiQ g y s h t E 5) L) 0 0 Q)  : ∀ (j u : Nat), u ≤ 5 → 5 + 1 ≤ u + j → Jj sc d 0 0 (mth 66) (pg P66 7).1 [some (.ref 87), some (.int (nI g)), some (.int y), some (.int s), some (.int h), some (.int (nI t)), some (.int (nI u))] [] (pp m 87 6 D K b 19 (hiQ g y s h t E u) L) 0 0 Q := by
  intro j
  induction j with
  | zero => intro u h1 h2; omega
  | succ j ih =>
    intro u h1 h2
    refine J_w z66 (i := 7) (by decide) 88 ?_
    refine And.intro (fun cz9 => ?_) (fun cz9 => ?_)
    · -- 9 taken: nI 5 ≤ nI u
      have kz9 : 5 ≤ u := kle (a := 5) (b := u) rfl rfl (by omega) (by omega) cz9
      show Jj sc d 0 0 (mth 66) (pg P66 2).1 [some (.ref 87), some (.int (nI g)), some (.int y), some (.int s), some (.int h), some (.int (nI t + nI 1)), some (.int (nI u))] [] (pp m 87 6 D K b 19 (hiQ g y s h t E u) L) 0 0 Q
      rw [show nI t + nI 1 = nI (t + 1) from by simp only [nI_add, pk_mul]]
      refine J_wk (L' := [some (.ref 87), some (.int (nI g)), some (.int y), some (.int s), some (.int h), some (.int (nI (t + 1))), none]) ⟨rfl, rfl, rfl, rfl, rfl, rfl, trivial⟩ ?_
      rw [show u = 5 by omega]
      exact hk
    · -- 9 not: ¬ nI 5 ≤ nI u
      have kz9 : u < 5 := knle (a := 5) (b := u) rfl rfl (by omega) (by omega) cz9
      refine And.intro (fun cz12 => ?_) (fun cz12 => ?_)
      · -- 12 taken: y = -nI 2
        refine And.intro (fun cz18 => ?_) (fun cz18 => ?_)
        · -- 18 taken: s = -nI 2
          refine And.intro (Wdo_87 hW) (Exists.intro _ (And.intro hb4 ?_))
          refine And.intro ⟨by omega, Nat.le_of_ble_eq_true rfl, Nat.le_refl _, Nat.le_refl _⟩ (And.intro (LWo_0 hB2) ?_)
          refine C30 (m := (pp m 87 6 D K b 19 (hiQ g y s h t E u) L)) (g := g) (t := t) (s := u) hB2 (by omega) (by omega) (by omega) ?_
          rw [pp_2 (y := b) (f := 7) (by omega) (by decide)]
          rw [pp_u2 (y := b) (f := 7) (by omega) (by decide)]
          show Jj sc d 0 0 (mth 66) (pg P66 7).1 [some (.ref 87), some (.int (nI g)), some (.int y), some (.int s), some (.int h), some (.int (nI t)), some (.int (nI u + nI 1))] [] (pp m 87 6 D K b 19 (ud (hiQ g y s h t E u) 7 ((g * 6 + t) * 5 + u) ((hiQ g y s h t E u) 7 ((g * 6 + t) * 5 + u) ||| h)) L) 0 0 Q
          rw [show nI u + nI 1 = nI (u + 1) from by simp only [nI_add, pk_mul]]
          have z := ih (u + 1) (by omega) (by omega)
          rw [hiQ_s] at z
          unfold hiS at z
          rw [if_pos ⟨Or.inl cz12, Or.inl cz18⟩] at z
          exact z
        · -- 18 not: ¬ s = -nI 2
          refine And.intro (fun cz21 => ?_) (fun cz21 => ?_)
          · -- 21 taken: ¬ s = nI u
            show Jj sc d 0 0 (mth 66) (pg P66 7).1 [some (.ref 87), some (.int (nI g)), some (.int y), some (.int s), some (.int h), some (.int (nI t)), some (.int (nI u + nI 1))] [] (pp m 87 6 D K b 19 (hiQ g y s h t E u) L) 0 0 Q
            rw [show nI u + nI 1 = nI (u + 1) from by simp only [nI_add, pk_mul]]
            have z := ih (u + 1) (by omega) (by omega)
            rw [hiQ_s] at z
            unfold hiS at z
            rw [if_neg (fun z => z.2.elim cz18 cz21)] at z
            exact z
          · -- 21 not: s = nI u
            refine And.intro (Wdo_87 hW) (Exists.intro _ (And.intro hb4 ?_))
            refine And.intro ⟨by omega, Nat.le_of_ble_eq_true rfl, Nat.le_refl _, Nat.le_refl _⟩ (And.intro (LWo_0 hB2) ?_)
            refine C30 (m := (pp m 87 6 D K b 19 (hiQ g y s h t E u) L)) (g := g) (t := t) (s := u) hB2 (by omega) (by omega) (by omega) ?_
            rw [pp_2 (y := b) (f := 7) (by omega) (by decide)]
            rw [pp_u2 (y := b) (f := 7) (by omega) (by decide)]
            show Jj sc d 0 0 (mth 66) (pg P66 7).1 [some (.ref 87), some (.int (nI g)), some (.int y), some (.int s), some (.int h), some (.int (nI t)), some (.int (nI u + nI 1))] [] (pp m 87 6 D K b 19 (ud (hiQ g y s h t E u) 7 ((g * 6 + t) * 5 + u) ((hiQ g y s h t E u) 7 ((g * 6 + t) * 5 + u) ||| h)) L) 0 0 Q
            rw [show nI u + nI 1 = nI (u + 1) from by simp only [nI_add, pk_mul]]
            have z := ih (u + 1) (by omega) (by omega)
            rw [hiQ_s] at z
            unfold hiS at z
            rw [if_pos ⟨Or.inl cz12, Or.inr cz21⟩] at z
            exact z
      · -- 12 not: ¬ y = -nI 2
        refine And.intro (fun cz15 => ?_) (fun cz15 => ?_)
        · -- 15 taken: ¬ y = nI t
          show Jj sc d 0 0 (mth 66) (pg P66 7).1 [some (.ref 87), some (.int (nI g)), some (.int y), some (.int s), some (.int h), some (.int (nI t)), some (.int (nI u + nI 1))] [] (pp m 87 6 D K b 19 (hiQ g y s h t E u) L) 0 0 Q
          rw [show nI u + nI 1 = nI (u + 1) from by simp only [nI_add, pk_mul]]
          have z := ih (u + 1) (by omega) (by omega)
          rw [hiQ_s] at z
          unfold hiS at z
          rw [if_neg (fun z => z.1.elim cz12 cz15)] at z
          exact z
        · -- 15 not: y = nI t
          refine And.intro (fun cz18 => ?_) (fun cz18 => ?_)
          · -- 18 taken: s = -nI 2
            refine And.intro (Wdo_87 hW) (Exists.intro _ (And.intro hb4 ?_))
            refine And.intro ⟨by omega, Nat.le_of_ble_eq_true rfl, Nat.le_refl _, Nat.le_refl _⟩ (And.intro (LWo_0 hB2) ?_)
            refine C30 (m := (pp m 87 6 D K b 19 (hiQ g y s h t E u) L)) (g := g) (t := t) (s := u) hB2 (by omega) (by omega) (by omega) ?_
            rw [pp_2 (y := b) (f := 7) (by omega) (by decide)]
            rw [pp_u2 (y := b) (f := 7) (by omega) (by decide)]
            show Jj sc d 0 0 (mth 66) (pg P66 7).1 [some (.ref 87), some (.int (nI g)), some (.int y), some (.int s), some (.int h), some (.int (nI t)), some (.int (nI u + nI 1))] [] (pp m 87 6 D K b 19 (ud (hiQ g y s h t E u) 7 ((g * 6 + t) * 5 + u) ((hiQ g y s h t E u) 7 ((g * 6 + t) * 5 + u) ||| h)) L) 0 0 Q
            rw [show nI u + nI 1 = nI (u + 1) from by simp only [nI_add, pk_mul]]
            have z := ih (u + 1) (by omega) (by omega)
            rw [hiQ_s] at z
            unfold hiS at z
            rw [if_pos ⟨Or.inr cz15, Or.inl cz18⟩] at z
            exact z
          · -- 18 not: ¬ s = -nI 2
            refine And.intro (fun cz21 => ?_) (fun cz21 => ?_)
            · -- 21 taken: ¬ s = nI u
              show Jj sc d 0 0 (mth 66) (pg P66 7).1 [some (.ref 87), some (.int (nI g)), some (.int y), some (.int s), some (.int h), some (.int (nI t)), some (.int (nI u + nI 1))] [] (pp m 87 6 D K b 19 (hiQ g y s h t E u) L) 0 0 Q
              rw [show nI u + nI 1 = nI (u + 1) from by simp only [nI_add, pk_mul]]
              have z := ih (u + 1) (by omega) (by omega)
              rw [hiQ_s] at z
              unfold hiS at z
              rw [if_neg (fun z => z.2.elim cz18 cz21)] at z
              exact z
            · -- 21 not: s = nI u
              refine And.intro (Wdo_87 hW) (Exists.intro _ (And.intro hb4 ?_))
              refine And.intro ⟨by omega, Nat.le_of_ble_eq_true rfl, Nat.le_refl _, Nat.le_refl _⟩ (And.intro (LWo_0 hB2) ?_)
              refine C30 (m := (pp m 87 6 D K b 19 (hiQ g y s h t E u) L)) (g := g) (t := t) (s := u) hB2 (by omega) (by omega) (by omega) ?_
              rw [pp_2 (y := b) (f := 7) (by omega) (by decide)]
              rw [pp_u2 (y := b) (f := 7) (by omega) (by decide)]
              show Jj sc d 0 0 (mth 66) (pg P66 7).1 [some (.ref 87), some (.int (nI g)), some (.int y), some (.int s), some (.int h), some (.int (nI t)), some (.int (nI u + nI 1))] [] (pp m 87 6 D K b 19 (ud (hiQ g y s h t E u) 7 ((g * 6 + t) * 5 + u) ((hiQ g y s h t E u) 7 ((g * 6 + t) * 5 + u) ||| h)) L) 0 0 Q
              rw [show nI u + nI 1 = nI (u + 1) from by simp only [nI_add, pk_mul]]
              have z := ih (u + 1) (by omega) (by omega)
              rw [hiQ_s] at z
              unfold hiS at z
              rw [if_pos ⟨Or.inr cz15, Or.inr cz21⟩] at z
              exact z
theorem lq66b {sc : Nat × (Nat → Int32)} {d : Nat} {m : Mm} {Q : Option Value → Mm → Prop} {b : Nat} {L : Nat → Nat → Int64} (hW : Wd m.2.2) (hB2 : LW m.2.2 b) (hdj : b + 19 ≤ 87 ∨ 87 + 6 ≤ b) {D : Nat → Nat → Int32} {K : Nat → Nat → Int64} {g : Nat} {y s h : Int32} (hd : 1 ≤ d) (hg : g < 6) (hb4 : va_rf (mR m 87 4) = .ref b) {E : Nat → Nat → Int32} (hQ : Q none (pp m 87 6 D K b 19 (htQ g y s h E 6) L))  : ∀ (j t : Nat), t ≤ 6 → 6 + 1 ≤ t + j → Jj sc d 0 0 (mth 66) (pg P66 2).1 [some (.ref 87), some (.int (nI g)), some (.int y), some (.int s), some (.int h), some (.int (nI t)), none] [] (pp m 87 6 D K b 19 (htQ g y s h E t) L) 0 0 Q := by
  intro j
  induction j with
  | zero => intro t h1 h2; omega
  | succ j ih =>
    intro t h1 h2
    refine J_w z66 (i := 2) (by decide) 88 ?_
    refine And.intro (fun cz4 => ?_) (fun cz4 => ?_)
    · -- 4 taken: nI 6 ≤ nI t
      have kz4 : 6 ≤ t := kle (a := 6) (b := t) rfl rfl (by omega) (by omega) cz4
      refine And.intro ⟨rfl, rfl, Nat.le_refl _, Nat.le_refl _⟩ ?_
      rw [show t = 6 by omega]
      exact hQ
    · -- 4 not: ¬ nI 6 ≤ nI t
      have kz4 : t < 6 := knle (a := 6) (b := t) rfl rfl (by omega) (by omega) cz4
      show Jj sc d 0 0 (mth 66) (pg P66 7).1 [some (.ref 87), some (.int (nI g)), some (.int y), some (.int s), some (.int h), some (.int (nI t)), some (.int (nI 0))] [] (pp m 87 6 D K b 19 (htQ g y s h E t) L) 0 0 Q
      have z := ih (t + 1) (by omega) (by omega)
      rw [htQ_s, htS_e] at z
      have z2 := lq66a hW hB2 hdj hd hg hb4 (by omega) z 6 0 (by decide) (by decide)
      rw [hiQ_0] at z2
      exact z2
theorem D66 {d : Nat} {m : Mm} {Q : Option Value → Mm → Prop} {b : Nat} {L : Nat → Nat → Int64} (hW : Wd m.2.2) (hB2 : LW m.2.2 b) (hdj : b + 19 ≤ 87 ∨ 87 + 6 ≤ b) {D : Nat → Nat → Int32} {K : Nat → Nat → Int64} {g : Nat} {y s h : Int32} (hd : 1 ≤ d) (hg : g < 6) (hb4 : va_rf (mR m 87 4) = .ref b) {E : Nat → Nat → Int32} (hQ : Q none (pp m 87 6 D K b 19 (htQ g y s h E 6) L)) : Cc d 0 0 66 [.ref 87, .int (nI g), .int y, .int s, .int h] (pp m 87 6 D K b 19 E L) Q := by
  refine ent (n := 88) z66 (by decide) rfl (by decide) (Nat.le_of_ble_eq_true rfl) (fun sc => ?_)
  show Jj sc d 0 0 (mth 66) (pg P66 2).1 [some (.ref 87), some (.int (nI g)), some (.int y), some (.int s), some (.int h), some (.int (nI 0)), none] [] (pp m 87 6 D K b 19 E L) 0 0 Q
  have z2 := lq66b (sc := sc) hW hB2 hdj hd hg hb4 hQ 7 0 (by decide) (by decide)
  rw [htQ_0] at z2
  exact z2
theorem D66x {d : Nat} {m : Mm} {Q : Option Value → Mm → Prop} {b : Nat} {L : Nat → Nat → Int64} (hW : Wd m.2.2) (hB2 : LW m.2.2 b) (hdj : b + 19 ≤ 87 ∨ 87 + 6 ≤ b) {D : Nat → Nat → Int32} {K : Nat → Nat → Int64} {g : Nat} {y s h : Int32} (hd : 1 ≤ d) (hg : g < 6) (hb4 : va_rf (mR m 87 4) = .ref b) {x : Int32} (hx : x = nI g) {E : Nat → Nat → Int32} (hQ : Q none (pp m 87 6 D K b 19 (htQ g y s h E 6) L)) : Cc d 0 0 66 [.ref 87, .int x, .int y, .int s, .int h] (pp m 87 6 D K b 19 E L) Q := by
  subst hx; exact D66 hW hB2 hdj hd hg hb4 hQ
def pAnyT (T : NT) (B : Nat → Int32) (n i : Nat) : Rs (Int32 × Nat) := if kiF B n i = 2 ∧ coT B n i = lN 1497 then .inr (-nI 2, nxF B n i) else tUse T 2 B n i
def holdsL (T : NT) (E : Nat → Nat → Int32) (B : Nat → Int32) (n i : Nat) : Rs LSt := rb (tUse T 4 B n i) fun x => rb (pAnyT T B n x.2) fun y => rb (pGround (nI 1) B n y.2) fun s => rb (pWhole (nI 0) (nI 23) B n s.2) fun f => rb (pWord (lN 655) B n f.2) fun i => rb (pWhole (f.1 + nI 1) (nI 24) B n i) fun t => .inr (T, htQ (nv x.1) y.1 s.1 (nI 1 <<< (t.1 &&& 31) - nI 1 <<< (f.1 &&& 31)) E 6, t.2)
theorem L65 {d : Nat} {m : Mm} {Q : Option Value → Mm → Prop} {b : Nat} {E : Nat → Nat → Int32} {L : Nat → Nat → Int64} (hW : Wd m.2.2) (hB2 : LW m.2.2 b) (hdj : b + 19 ≤ 87 ∨ 87 + 6 ≤ b) {D : Nat → Nat → Int32} {K : Nat → Nat → Int64} {B : Nat → Int32} {n i : Nat} {T : NT} (hd : 10 ≤ d) (hb4 : va_rf (mR m 87 4) = .ref b) (hR : RS B n T.1 i D K) (hTT : T = (T.1, K 3, D 4, D 5)) (hk24 : T.1 ≤ 24) {nt gn : Nat} (h2 : TS T 2 nt) (hnt : nt ≤ 6) (h4 : TS T 4 gn) (hgn : gn ≤ 6) (hF : ∀ D1 K1 E1 f p, holdsL T E B n i = .inl (f, p) → D1 0 7 = nI f → D1 0 8 = nI p → D1 1 1 = nI 0 → Q (some (.int (nI 0))) (pp m 87 6 D1 K1 b 19 E1 L)) (hO : ∀ (D1 : Nat → Nat → Int32) (K1 : Nat → Nat → Int64) E1 (T1 : NT) j, holdsL T E B n i = .inr (T1, E1, j) → RS B n T1.1 j D1 K1 → T1 = (T1.1, K1 3, D1 4, D1 5) → Q (some (.int (nI 1))) (pp m 87 6 D1 K1 b 19 E1 L)) : Cc d 0 0 65 [.ref 87] (pp m 87 6 D K b 19 E L) Q := by
  refine ent (n := 176) z65 (by decide) rfl (by decide) (Nat.le_of_ble_eq_true rfl) (fun sc => ?_)
  refine And.intro ⟨by omega, Nat.le_of_ble_eq_true rfl, Nat.le_refl _, Nat.le_refl _⟩ (And.intro (Wdo_87 hW) ?_)
  refine D83 (so := nI 4) hW hB2 hdj (by omega) (hR)  hk24 ?_ ?_
  · -- a way behind the call
    intro D9 K9 f9 p9 ez8 g7 g8 g9
    have ez9 : tUse (T) 4 B n (i) = .inl (f9, p9) := by rw [hTT]; exact ez8
    refine And.intro (fun cz3 => False.elim (absurd cz3 (by decide))) (fun cz3 => ?_)
    refine And.intro ⟨rfl, Or.inl rfl, Nat.le_refl _, Nat.le_refl _⟩ ?_
    exact hF _ _ _ f9 p9 (by simp only [holdsL, rb, ez9]) g7 g8 g9
  · -- a way behind the call
    intro D2a K2a x2a j2a ep2 su2 vv2
    have ev2 : tUse (T) 4 B n (i) = .inr (x2a, j2a) := by rw [hTT]; exact ep2
    have nT2 : (T : NT) = ((T).1, K2a 3, D2a 4, D2a 5) := by rw [su2.2.2.2.1, su2.2.1, su2.2.2.1]; exact hTT
    have iv2 := TS_u h4 (by omega) ev2
    refine And.intro (fun cz3 => ?_) (fun cz3 => False.elim (absurd cz3 (by decide)))
    refine And.intro (Wdo_87 hW) ?_
    rw [pp_10 (x := 87) (by decide)]
    rw [vv2]
    refine And.intro (Wdo_87 hW) (Exists.intro _ (And.intro (Wdr_87_0 hW) ?_))
    refine And.intro ⟨by omega, Nat.le_of_ble_eq_true rfl, Nat.le_refl _, Nat.le_refl _⟩ (And.intro (Wdo_88 hW) ?_)
    obtain ⟨hT9, hi9, hn9, h59, h79⟩ := su2.1
    refine D110 (s0 := 10) hW hB2 hdj (by omega) (by decide) (by decide) ?_ ?_
    · -- a way behind the call
      intro h2q
      have ea : ¬ (kiF B n j2a = 2 ∧ coT B n j2a = lN 1497) := fun z => h2q ((ki_q hT9.2.2.2.1 (by decide)).mpr z.1)
      refine And.intro (fun cz16 => ?_) (fun cz16 => ?_)
      · -- 16 taken: -nI 1 = -nI 1
        skip
        refine And.intro ⟨by omega, Nat.le_of_ble_eq_true rfl, Nat.le_refl _, Nat.le_refl _⟩ (And.intro (Wdo_87 hW) ?_)
        refine D83 (so := nI 2) hW hB2 hdj (by omega) (su2.1)  hk24 ?_ ?_
        · -- a way behind the call
          intro D9 K9 f9 p9 ez8 g7 g8 g9
          have ez9 : tUse (T) 2 B n (j2a) = .inl (f9, p9) := by rw [nT2]; exact ez8
          rw [← show pAnyT T B n j2a = tUse T 2 B n j2a from if_neg ea] at ez9
          refine And.intro (fun cz24 => ?_) (fun cz24 => False.elim (absurd cz24 (by decide)))
          refine And.intro ⟨rfl, Or.inl rfl, Nat.le_refl _, Nat.le_refl _⟩ ?_
          exact hF _ _ _ f9 p9 (by simp only [holdsL, rb, ev2, ez9]) g7 g8 g9
        · -- a way behind the call
          intro D23a K23a x23a j23a ep23 su23 vv23
          have ev23 : tUse (T) 2 B n (j2a) = .inr (x23a, j23a) := by rw [nT2]; exact ep23
          have nT23 : (T : NT) = ((T).1, K23a 3, D23a 4, D23a 5) := by rw [su23.2.2.2.1, su23.2.1, su23.2.2.1]; exact nT2
          have iv23 := TS_u h2 (by omega) ev23
          rw [← show pAnyT T B n j2a = tUse T 2 B n j2a from if_neg ea] at ev23
          refine And.intro (fun cz24 => False.elim (absurd cz24 (by decide))) (fun cz24 => ?_)
          refine And.intro (Wdo_87 hW) ?_
          rw [pp_10 (x := 87) (by decide)]
          rw [vv23]
          refine And.intro ⟨by omega, Nat.le_of_ble_eq_true rfl, Nat.le_refl _, Nat.le_refl _⟩ (And.intro (Wdo_87 hW) ?_)
          refine D75 hW hB2 hdj (by omega) (su23.1) ?_ ?_
          · -- a way behind the call
            intro D9 K9 f9 p9 ez9 g7 g8 g9
            refine And.intro (fun cz34 => False.elim (absurd cz34 (by decide))) (fun cz34 => ?_)
            refine And.intro ⟨rfl, Or.inl rfl, Nat.le_refl _, Nat.le_refl _⟩ ?_
            exact hF _ _ _ f9 p9 (by simp only [holdsL, rb, ev2, ev23, ez9]) g7 g8 g9
          · -- a way behind the call
            intro D33a K33a x33a j33a ep33 su33 vv33
            have nT33 : (T : NT) = ((T).1, K33a 3, D33a 4, D33a 5) := by rw [su33.2.2.2.1, su33.2.1, su33.2.2.1]; exact nT23
            refine And.intro (fun cz34 => ?_) (fun cz34 => False.elim (absurd cz34 (by decide)))
            refine And.intro (Wdo_87 hW) ?_
            rw [pp_10 (x := 87) (by decide)]
            rw [vv33]
            refine And.intro ⟨by omega, Nat.le_of_ble_eq_true rfl, Nat.le_refl _, Nat.le_refl _⟩ (And.intro (Wdo_87 hW) ?_)
            refine D79 (lo := nI 0) (hi0 := nI 23) hW hB2 hdj (by omega) (su33.1) ?_ ?_
            · -- a way behind the call
              intro D9 K9 f9 p9 ez9 g7 g8 g9
              refine And.intro (fun cz44 => False.elim (absurd cz44 (by decide))) (fun cz44 => ?_)
              refine And.intro ⟨rfl, Or.inl rfl, Nat.le_refl _, Nat.le_refl _⟩ ?_
              exact hF _ _ _ f9 p9 (by simp only [holdsL, rb, ev2, ev23, ep33, ez9]) g7 g8 g9
            · -- a way behind the call
              intro D43a K43a x43a j43a ep43 su43 vv43
              have nT43 : (T : NT) = ((T).1, K43a 3, D43a 4, D43a 5) := by rw [su43.2.2.2.1, su43.2.1, su43.2.2.1]; exact nT33
              refine And.intro (fun cz44 => ?_) (fun cz44 => False.elim (absurd cz44 (by decide)))
              refine And.intro (Wdo_87 hW) ?_
              rw [pp_10 (x := 87) (by decide)]
              rw [vv43]
              refine And.intro ⟨by omega, Nat.le_of_ble_eq_true rfl, Nat.le_refl _, Nat.le_refl _⟩ (And.intro (Wdo_87 hW) ?_)
              refine D76 (s0 := 9) (w0 := lN 655) hW hB2 hdj (by decide) (by decide) wl_9 (by omega) (su43.1) ?_ ?_
              · -- a way behind the call
                intro D9 K9 f9 p9 ez9 g7 g8 g9
                refine And.intro (fun cz53 => ?_) (fun cz53 => False.elim (absurd cz53 (by decide)))
                refine And.intro ⟨rfl, Or.inl rfl, Nat.le_refl _, Nat.le_refl _⟩ ?_
                exact hF _ _ _ f9 p9 (by simp only [holdsL, rb, ev2, ev23, ep33, ep43, ez9]) g7 g8 g9
              · -- a way behind the call
                intro D52a K52a j52a ep52 su52 vv52
                have nT52 : (T : NT) = ((T).1, K52a 3, D52a 4, D52a 5) := by rw [su52.2.2.2.1, su52.2.1, su52.2.2.1]; exact nT43
                refine And.intro (fun cz53 => False.elim (absurd cz53 (by decide))) (fun cz53 => ?_)
                refine And.intro ⟨by omega, Nat.le_of_ble_eq_true rfl, Nat.le_refl _, Nat.le_refl _⟩ (And.intro (Wdo_87 hW) ?_)
                refine D79 (lo := x43a + nI 1) (hi0 := nI 24) hW hB2 hdj (by omega) (su52.1) ?_ ?_
                · -- a way behind the call
                  intro D9 K9 f9 p9 ez9 g7 g8 g9
                  refine And.intro (fun cz60 => False.elim (absurd cz60 (by decide))) (fun cz60 => ?_)
                  refine And.intro ⟨rfl, Or.inl rfl, Nat.le_refl _, Nat.le_refl _⟩ ?_
                  exact hF _ _ _ f9 p9 (by simp only [holdsL, rb, ev2, ev23, ep33, ep43, ep52, ez9]) g7 g8 g9
                · -- a way behind the call
                  intro D59a K59a x59a j59a ep59 su59 vv59
                  have nT59 : (T : NT) = ((T).1, K59a 3, D59a 4, D59a 5) := by rw [su59.2.2.2.1, su59.2.1, su59.2.2.1]; exact nT52
                  refine And.intro (fun cz60 => ?_) (fun cz60 => False.elim (absurd cz60 (by decide)))
                  refine And.intro (Wdo_87 hW) ?_
                  rw [pp_10 (x := 87) (by decide)]
                  rw [vv59]
                  refine And.intro ⟨by omega, Nat.le_of_ble_eq_true rfl, Nat.le_refl _, Nat.le_refl _⟩ (And.intro (Wdo_87 hW) ?_)
                  refine D66x hW hB2 hdj (by omega) (show nv x2a < 6 by omega) hb4 iv2.1 ?_
                  refine And.intro ⟨rfl, Or.inr rfl, Nat.le_refl _, Nat.le_refl _⟩ ?_
                  exact hO _ _ _ (T) _ (by simp only [holdsL, rb, ev2, ev23, ep33, ep43, ep52, ep59]) (su59.1) nT59
      · -- 16 not: ¬ -nI 1 = -nI 1
        skip
        exact absurd rfl cz16
    · -- a way behind the call
      intro h2q
      have kk2 := (ki_q (c := 2) hT9.2.2.2.1 (by decide)).mp h2q
      refine And.intro (fun cz16 => ?_) (fun cz16 => ?_)
      · -- 16 taken: ixF (K2a 1 8) (wlC (sBy 10) (lN 0)) (nI 0) = -nI 1
        rw [wl_10, ix1, (hT9.2.2.2.2.2.1 kk2).2] at cz16; have ea : ¬ (kiF B n j2a = 2 ∧ coT B n j2a = lN 1497) := fun z => absurd ((if_pos z.2.symm).symm.trans cz16) (by decide)
        refine And.intro ⟨by omega, Nat.le_of_ble_eq_true rfl, Nat.le_refl _, Nat.le_refl _⟩ (And.intro (Wdo_87 hW) ?_)
        refine D83 (so := nI 2) hW hB2 hdj (by omega) (su2.1)  hk24 ?_ ?_
        · -- a way behind the call
          intro D9 K9 f9 p9 ez8 g7 g8 g9
          have ez9 : tUse (T) 2 B n (j2a) = .inl (f9, p9) := by rw [nT2]; exact ez8
          rw [← show pAnyT T B n j2a = tUse T 2 B n j2a from if_neg ea] at ez9
          refine And.intro (fun cz24 => ?_) (fun cz24 => False.elim (absurd cz24 (by decide)))
          refine And.intro ⟨rfl, Or.inl rfl, Nat.le_refl _, Nat.le_refl _⟩ ?_
          exact hF _ _ _ f9 p9 (by simp only [holdsL, rb, ev2, ez9]) g7 g8 g9
        · -- a way behind the call
          intro D23a K23a x23a j23a ep23 su23 vv23
          have ev23 : tUse (T) 2 B n (j2a) = .inr (x23a, j23a) := by rw [nT2]; exact ep23
          have nT23 : (T : NT) = ((T).1, K23a 3, D23a 4, D23a 5) := by rw [su23.2.2.2.1, su23.2.1, su23.2.2.1]; exact nT2
          have iv23 := TS_u h2 (by omega) ev23
          rw [← show pAnyT T B n j2a = tUse T 2 B n j2a from if_neg ea] at ev23
          refine And.intro (fun cz24 => False.elim (absurd cz24 (by decide))) (fun cz24 => ?_)
          refine And.intro (Wdo_87 hW) ?_
          rw [pp_10 (x := 87) (by decide)]
          rw [vv23]
          refine And.intro ⟨by omega, Nat.le_of_ble_eq_true rfl, Nat.le_refl _, Nat.le_refl _⟩ (And.intro (Wdo_87 hW) ?_)
          refine D75 hW hB2 hdj (by omega) (su23.1) ?_ ?_
          · -- a way behind the call
            intro D9 K9 f9 p9 ez9 g7 g8 g9
            refine And.intro (fun cz34 => False.elim (absurd cz34 (by decide))) (fun cz34 => ?_)
            refine And.intro ⟨rfl, Or.inl rfl, Nat.le_refl _, Nat.le_refl _⟩ ?_
            exact hF _ _ _ f9 p9 (by simp only [holdsL, rb, ev2, ev23, ez9]) g7 g8 g9
          · -- a way behind the call
            intro D33a K33a x33a j33a ep33 su33 vv33
            have nT33 : (T : NT) = ((T).1, K33a 3, D33a 4, D33a 5) := by rw [su33.2.2.2.1, su33.2.1, su33.2.2.1]; exact nT23
            refine And.intro (fun cz34 => ?_) (fun cz34 => False.elim (absurd cz34 (by decide)))
            refine And.intro (Wdo_87 hW) ?_
            rw [pp_10 (x := 87) (by decide)]
            rw [vv33]
            refine And.intro ⟨by omega, Nat.le_of_ble_eq_true rfl, Nat.le_refl _, Nat.le_refl _⟩ (And.intro (Wdo_87 hW) ?_)
            refine D79 (lo := nI 0) (hi0 := nI 23) hW hB2 hdj (by omega) (su33.1) ?_ ?_
            · -- a way behind the call
              intro D9 K9 f9 p9 ez9 g7 g8 g9
              refine And.intro (fun cz44 => False.elim (absurd cz44 (by decide))) (fun cz44 => ?_)
              refine And.intro ⟨rfl, Or.inl rfl, Nat.le_refl _, Nat.le_refl _⟩ ?_
              exact hF _ _ _ f9 p9 (by simp only [holdsL, rb, ev2, ev23, ep33, ez9]) g7 g8 g9
            · -- a way behind the call
              intro D43a K43a x43a j43a ep43 su43 vv43
              have nT43 : (T : NT) = ((T).1, K43a 3, D43a 4, D43a 5) := by rw [su43.2.2.2.1, su43.2.1, su43.2.2.1]; exact nT33
              refine And.intro (fun cz44 => ?_) (fun cz44 => False.elim (absurd cz44 (by decide)))
              refine And.intro (Wdo_87 hW) ?_
              rw [pp_10 (x := 87) (by decide)]
              rw [vv43]
              refine And.intro ⟨by omega, Nat.le_of_ble_eq_true rfl, Nat.le_refl _, Nat.le_refl _⟩ (And.intro (Wdo_87 hW) ?_)
              refine D76 (s0 := 9) (w0 := lN 655) hW hB2 hdj (by decide) (by decide) wl_9 (by omega) (su43.1) ?_ ?_
              · -- a way behind the call
                intro D9 K9 f9 p9 ez9 g7 g8 g9
                refine And.intro (fun cz53 => ?_) (fun cz53 => False.elim (absurd cz53 (by decide)))
                refine And.intro ⟨rfl, Or.inl rfl, Nat.le_refl _, Nat.le_refl _⟩ ?_
                exact hF _ _ _ f9 p9 (by simp only [holdsL, rb, ev2, ev23, ep33, ep43, ez9]) g7 g8 g9
              · -- a way behind the call
                intro D52a K52a j52a ep52 su52 vv52
                have nT52 : (T : NT) = ((T).1, K52a 3, D52a 4, D52a 5) := by rw [su52.2.2.2.1, su52.2.1, su52.2.2.1]; exact nT43
                refine And.intro (fun cz53 => False.elim (absurd cz53 (by decide))) (fun cz53 => ?_)
                refine And.intro ⟨by omega, Nat.le_of_ble_eq_true rfl, Nat.le_refl _, Nat.le_refl _⟩ (And.intro (Wdo_87 hW) ?_)
                refine D79 (lo := x43a + nI 1) (hi0 := nI 24) hW hB2 hdj (by omega) (su52.1) ?_ ?_
                · -- a way behind the call
                  intro D9 K9 f9 p9 ez9 g7 g8 g9
                  refine And.intro (fun cz60 => False.elim (absurd cz60 (by decide))) (fun cz60 => ?_)
                  refine And.intro ⟨rfl, Or.inl rfl, Nat.le_refl _, Nat.le_refl _⟩ ?_
                  exact hF _ _ _ f9 p9 (by simp only [holdsL, rb, ev2, ev23, ep33, ep43, ep52, ez9]) g7 g8 g9
                · -- a way behind the call
                  intro D59a K59a x59a j59a ep59 su59 vv59
                  have nT59 : (T : NT) = ((T).1, K59a 3, D59a 4, D59a 5) := by rw [su59.2.2.2.1, su59.2.1, su59.2.2.1]; exact nT52
                  refine And.intro (fun cz60 => ?_) (fun cz60 => False.elim (absurd cz60 (by decide)))
                  refine And.intro (Wdo_87 hW) ?_
                  rw [pp_10 (x := 87) (by decide)]
                  rw [vv59]
                  refine And.intro ⟨by omega, Nat.le_of_ble_eq_true rfl, Nat.le_refl _, Nat.le_refl _⟩ (And.intro (Wdo_87 hW) ?_)
                  refine D66x hW hB2 hdj (by omega) (show nv x2a < 6 by omega) hb4 iv2.1 ?_
                  refine And.intro ⟨rfl, Or.inr rfl, Nat.le_refl _, Nat.le_refl _⟩ ?_
                  exact hO _ _ _ (T) _ (by simp only [holdsL, rb, ev2, ev23, ep33, ep43, ep52, ep59]) (su59.1) nT59
      · -- 16 not: ¬ ixF (K2a 1 8) (wlC (sBy 10) (lN 0)) (nI 0) = -nI 1
        rw [wl_10, ix1, (hT9.2.2.2.2.2.1 kk2).2] at cz16; have ea : kiF B n j2a = 2 ∧ coT B n j2a = lN 1497 := ⟨kk2, Classical.byContradiction fun z => cz16 (if_neg (fun q => z q.symm))⟩
        refine And.intro (Wdo_87 hW) (Exists.intro _ (And.intro (Wdr_87_0 hW) ?_))
        refine And.intro ⟨by omega, Nat.le_of_ble_eq_true rfl, Nat.le_refl _, Nat.le_refl _⟩ (And.intro (Wdo_88 hW) ?_)
        refine D108 (B := B) (n := n) (i := nxF B n j2a) (D0 := D2a) hW hB2 hdj (by omega) hn9 (nxF_le hi9) hT9.2.1 hT9.1 hT9.2.2.2.2.2.2.2.2 hT9.2.2.2.2.1 (fun D19a K19a uT u9 u1 uD uK => ?_)
        · -- a way behind the call
          have ev23 : pAnyT T B n j2a = .inr (-nI 2, nxF B n j2a) := if_pos ea
          have rr19 : RS B n T.1 (nxF B n j2a) D19a K19a := ⟨uT, nxF_le hi9, hn9, (congrFun (uD 0 (by decide)) 5).trans h59, (congrFun (uD 0 (by decide)) 7).trans h79⟩
          have nT19 : (T : NT) = ((T).1, K19a 3, D19a 4, D19a 5) := by rw [uK 3 (by decide), uD 4 (by decide), uD 5 (by decide)]; exact nT2
          refine And.intro ⟨by omega, Nat.le_of_ble_eq_true rfl, Nat.le_refl _, Nat.le_refl _⟩ (And.intro (Wdo_87 hW) ?_)
          refine D75 hW hB2 hdj (by omega) (rr19) ?_ ?_
          · -- a way behind the call
            intro D9 K9 f9 p9 ez9 g7 g8 g9
            refine And.intro (fun cz34 => False.elim (absurd cz34 (by decide))) (fun cz34 => ?_)
            refine And.intro ⟨rfl, Or.inl rfl, Nat.le_refl _, Nat.le_refl _⟩ ?_
            exact hF _ _ _ f9 p9 (by simp only [holdsL, rb, ev2, ev23, ez9]) g7 g8 g9
          · -- a way behind the call
            intro D33a K33a x33a j33a ep33 su33 vv33
            have nT33 : (T : NT) = ((T).1, K33a 3, D33a 4, D33a 5) := by rw [su33.2.2.2.1, su33.2.1, su33.2.2.1]; exact nT19
            refine And.intro (fun cz34 => ?_) (fun cz34 => False.elim (absurd cz34 (by decide)))
            refine And.intro (Wdo_87 hW) ?_
            rw [pp_10 (x := 87) (by decide)]
            rw [vv33]
            refine And.intro ⟨by omega, Nat.le_of_ble_eq_true rfl, Nat.le_refl _, Nat.le_refl _⟩ (And.intro (Wdo_87 hW) ?_)
            refine D79 (lo := nI 0) (hi0 := nI 23) hW hB2 hdj (by omega) (su33.1) ?_ ?_
            · -- a way behind the call
              intro D9 K9 f9 p9 ez9 g7 g8 g9
              refine And.intro (fun cz44 => False.elim (absurd cz44 (by decide))) (fun cz44 => ?_)
              refine And.intro ⟨rfl, Or.inl rfl, Nat.le_refl _, Nat.le_refl _⟩ ?_
              exact hF _ _ _ f9 p9 (by simp only [holdsL, rb, ev2, ev23, ep33, ez9]) g7 g8 g9
            · -- a way behind the call
              intro D43a K43a x43a j43a ep43 su43 vv43
              have nT43 : (T : NT) = ((T).1, K43a 3, D43a 4, D43a 5) := by rw [su43.2.2.2.1, su43.2.1, su43.2.2.1]; exact nT33
              refine And.intro (fun cz44 => ?_) (fun cz44 => False.elim (absurd cz44 (by decide)))
              refine And.intro (Wdo_87 hW) ?_
              rw [pp_10 (x := 87) (by decide)]
              rw [vv43]
              refine And.intro ⟨by omega, Nat.le_of_ble_eq_true rfl, Nat.le_refl _, Nat.le_refl _⟩ (And.intro (Wdo_87 hW) ?_)
              refine D76 (s0 := 9) (w0 := lN 655) hW hB2 hdj (by decide) (by decide) wl_9 (by omega) (su43.1) ?_ ?_
              · -- a way behind the call
                intro D9 K9 f9 p9 ez9 g7 g8 g9
                refine And.intro (fun cz53 => ?_) (fun cz53 => False.elim (absurd cz53 (by decide)))
                refine And.intro ⟨rfl, Or.inl rfl, Nat.le_refl _, Nat.le_refl _⟩ ?_
                exact hF _ _ _ f9 p9 (by simp only [holdsL, rb, ev2, ev23, ep33, ep43, ez9]) g7 g8 g9
              · -- a way behind the call
                intro D52a K52a j52a ep52 su52 vv52
                have nT52 : (T : NT) = ((T).1, K52a 3, D52a 4, D52a 5) := by rw [su52.2.2.2.1, su52.2.1, su52.2.2.1]; exact nT43
                refine And.intro (fun cz53 => False.elim (absurd cz53 (by decide))) (fun cz53 => ?_)
                refine And.intro ⟨by omega, Nat.le_of_ble_eq_true rfl, Nat.le_refl _, Nat.le_refl _⟩ (And.intro (Wdo_87 hW) ?_)
                refine D79 (lo := x43a + nI 1) (hi0 := nI 24) hW hB2 hdj (by omega) (su52.1) ?_ ?_
                · -- a way behind the call
                  intro D9 K9 f9 p9 ez9 g7 g8 g9
                  refine And.intro (fun cz60 => False.elim (absurd cz60 (by decide))) (fun cz60 => ?_)
                  refine And.intro ⟨rfl, Or.inl rfl, Nat.le_refl _, Nat.le_refl _⟩ ?_
                  exact hF _ _ _ f9 p9 (by simp only [holdsL, rb, ev2, ev23, ep33, ep43, ep52, ez9]) g7 g8 g9
                · -- a way behind the call
                  intro D59a K59a x59a j59a ep59 su59 vv59
                  have nT59 : (T : NT) = ((T).1, K59a 3, D59a 4, D59a 5) := by rw [su59.2.2.2.1, su59.2.1, su59.2.2.1]; exact nT52
                  refine And.intro (fun cz60 => ?_) (fun cz60 => False.elim (absurd cz60 (by decide)))
                  refine And.intro (Wdo_87 hW) ?_
                  rw [pp_10 (x := 87) (by decide)]
                  rw [vv59]
                  refine And.intro ⟨by omega, Nat.le_of_ble_eq_true rfl, Nat.le_refl _, Nat.le_refl _⟩ (And.intro (Wdo_87 hW) ?_)
                  refine D66x hW hB2 hdj (by omega) (show nv x2a < 6 by omega) hb4 iv2.1 ?_
                  refine And.intro ⟨rfl, Or.inr rfl, Nat.le_refl _, Nat.le_refl _⟩ ?_
                  exact hO _ _ _ (T) _ (by simp only [holdsL, rb, ev2, ev23, ep33, ep43, ep52, ep59]) (su59.1) nT59
theorem D111 {d : Nat} {m : Mm} {Q : Option Value → Mm → Prop} {b : Nat} {E : Nat → Nat → Int32} {L : Nat → Nat → Int64} (hW : Wd m.2.2) (hB2 : LW m.2.2 b) (hdj : b + 19 ≤ 87 ∨ 87 + 6 ≤ b) {D : Nat → Nat → Int32} {K : Nat → Nat → Int64} {B : Nat → Int32} {n p x : Nat} (h5 : D 1 5 = nI p) (h2 : D 1 2 = nI n) (hB : D 2 = B) (hpx : p + x < n) (hn : n ≤ 1200) (hQ : Q (some (.int (B (p + x)))) (pp m 87 6 D K b 19 E L)) : Cc d 0 0 111 [.ref 88, .int (nI x)] (pp m 87 6 D K b 19 E L) Q := by
  refine ent (n := 56) z111 (by decide) rfl (by decide) (Nat.le_of_ble_eq_true rfl) (fun sc => ?_)
  refine And.intro (Wdo_88 hW) ?_
  rw [pp_1 (x := 87) (f := 1) (by decide)]
  rw [h5]
  refine And.intro (fun cz6 => False.elim (absurd cz6 (by rw [nI_add]; exact nI_pos (by omega)))) (fun cz6 => ?_)
  refine And.intro (Wdo_88 hW) ?_
  rw [pp_1 (x := 87) (f := 1) (by decide)]
  rw [h2]
  refine And.intro (fun cz10 => ?_) (fun cz10 => ?_)
  · -- 10 taken: nI n ≤ nI p + nI x
    have kz10 : n ≤ p + x := kle (a := n) (b := p + x) rfl (by simp only [nI_add, pk_mul]) (by omega) (by omega) cz10
    omega
  · -- 10 not: ¬ nI n ≤ nI p + nI x
    have kz10 : p + x < n := knle (a := n) (b := p + x) rfl (by simp only [nI_add, pk_mul]) (by omega) (by omega) cz10
    refine And.intro (Wdo_88 hW) (Exists.intro _ (And.intro (Wdr_88_0 hW) ?_))
    have ez14 : nI p + nI x = nI (p + x) := by simp only [nI_add, pk_mul]
    refine And.intro (Wdi_89 hW (vi ez14 (by omega))) ?_
    rw [vc ez14 (by omega)]
    rw [pp_1 (x := 87) (f := 2) (by decide)]
    refine And.intro ⟨rfl, trivial, Nat.le_refl _, Nat.le_refl _⟩ ?_
    rw [hB]
    exact hQ
def rwS (B : Nat → Int32) (r p : Nat) : Nat → (Nat → Nat → Int32) → Nat → Nat → Int32 := fun x E => ud E 2 (r + x) (B (p + x) - nI 97)
def rwQ (B : Nat → Int32) (r p : Nat) (E : Nat → Nat → Int32) (x : Nat) : Nat → Nat → Int32 := fo (rwS B r p) E x
theorem rwQ_s {B : Nat → Int32} {r p : Nat} {E : Nat → Nat → Int32} {x : Nat} : rwQ B r p E (x + 1) = ud (rwQ B r p E x) 2 (r + x) (B (p + x) - nI 97) := fo_s
theorem rwQ_r {B : Nat → Int32} {r p f : Nat} {E : Nat → Nat → Int32} (hf : f ≠ 2) : ∀ x, rwQ B r p E x f = E f
  | 0 => rfl
  | x + 1 => by rw [rwQ_s, ud_ne hf, rwQ_r hf x]
abbrev soP (x : Int32) : Prop := ¬ x - nI 97 < 0 ∧ ¬ nI 5 ≤ x - nI 97
def rowL (T : NT) (E : Nat → Nat → Int32) (B : Nat → Int32) (n i : Nat) : Rs LSt := if kiF B n i = 2 then (if nI (leT B n i) = E 0 0 then (if ∀ x, x < nv (E 0 0) → soP (B (plF B n i + x)) then .inr (T, rwQ B (nv (E 1 1) * nv (E 0 0)) (plF B n i) E (nv (E 0 0)), nxF B n i) else .inl (7, plF B n i)) else .inl (7, plF B n i)) else .inl (1, plF B n i)
theorem lq62 {sc : Nat × (Nat → Int32)} {d : Nat} {m : Mm} {Q : Option Value → Mm → Prop} {b : Nat} {E : Nat → Nat → Int32} {L : Nat → Nat → Int64} (hW : Wd m.2.2) (hB2 : LW m.2.2 b) (hdj : b + 19 ≤ 87 ∨ 87 + 6 ≤ b) {D : Nat → Nat → Int32} {K : Nat → Nat → Int64} {B : Nat → Int32} {n i : Nat} {T : NT} (hd : 10 ≤ d) (hb4 : va_rf (mR m 87 4) = .ref b) (hR : RS B n T.1 i D K) (hTT : T = (T.1, K 3, D 4, D 5)) (hk24 : T.1 ≤ 24) (hw : E 0 0 = nI (nv (E 0 0))) (hw6 : nv (E 0 0) ≤ 6) (hr : E 1 1 = nI (nv (E 1 1))) (hrw : nv (E 1 1) * nv (E 0 0) + nv (E 0 0) ≤ 24) (hF : ∀ D1 K1 E1 f p, rowL T E B n i = .inl (f, p) → D1 0 7 = nI f → D1 0 8 = nI p → D1 1 1 = nI 0 → Q (some (.int (nI 0))) (pp m 87 6 D1 K1 b 19 E1 L)) (hO : ∀ (D1 : Nat → Nat → Int32) (K1 : Nat → Nat → Int64) E1 (T1 : NT) j, rowL T E B n i = .inr (T1, E1, j) → RS B n T1.1 j D1 K1 → T1 = (T1.1, K1 3, D1 4, D1 5) → Q (some (.int (nI 1))) (pp m 87 6 D1 K1 b 19 E1 L)) (kk2 : kiF B n i = 2) (hlw : nI (leT B n i) = E 0 0) (hle : leT B n i = (nv (E 0 0)))  : ∀ (j x : Nat), x ≤ (nv (E 0 0)) → (nv (E 0 0)) + 1 ≤ x + j → (∀ x1, x1 < x → soP (B ((plF B n i) + x1))) → Jj sc d 0 0 (mth 62) (pg P62 32).1 [some (.ref 87), some (.int (nI ((nv (E 1 1) * nv (E 0 0))))), some (.int (nI x)), none] [] (pp m 87 6 D K b 19 (rwQ B (nv (E 1 1) * nv (E 0 0)) (plF B n i) E x) L) 0 0 Q := by
  intro j
  induction j with
  | zero => intro x h1 h2 hall; omega
  | succ j ih =>
    intro x h1 h2 hall
    refine J_w z62 (i := 32) (by decide) 166 ?_
    obtain ⟨hT, hi, hn, h05, h07⟩ := id hR
    have tB := hT.1
    have t2 := hT.2.1
    have t5 := hT.2.2.1
    have t4 := hT.2.2.2.1
    have t3 := hT.2.2.2.2.1
    have tw := hT.2.2.2.2.2.1
    have t1 := hT.2.2.2.2.2.2.2.2
    refine And.intro (Wdo_87 hW) (Exists.intro _ (And.intro hb4 ?_))
    refine And.intro (LWo_0 hB2) ?_
    rw [pp_20 (y := b) (by omega) (by decide)]
    rw [((congrFun (rwQ_r (by decide) x) 0).trans hw)]
    refine And.intro (fun cz36 => ?_) (fun cz36 => ?_)
    · -- 36 taken: nI ((nv (E 0 0))) ≤ nI x
      have kz36 : (nv (E 0 0)) ≤ x := kle (a := (nv (E 0 0))) (b := x) rfl rfl (by omega) (by omega) cz36
      refine And.intro (Wdo_87 hW) (Exists.intro _ (And.intro (Wdr_87_0 hW) ?_))
      refine And.intro ⟨by omega, Nat.le_of_ble_eq_true rfl, Nat.le_refl _, Nat.le_refl _⟩ (And.intro (Wdo_88 hW) ?_)
      refine D108 (B := B) (n := n) (i := nxF B n i) (D0 := D) hW hB2 hdj (by omega) hn (nxF_le hi) t2 tB t1 t3 (fun D1 K1 uT u9 u1 uD uK => ?_)
      refine And.intro ⟨rfl, Or.inr rfl, Nat.le_refl _, Nat.le_refl _⟩ ?_
      rw [show x = (nv (E 0 0)) by omega] at hall ⊢
      exact hO _ _ _ T _ (by unfold rowL; rw [if_pos kk2, if_pos hlw, if_pos hall]) ⟨uT, nxF_le hi, hn, (congrFun (uD 0 (by decide)) 5).trans h05, (congrFun (uD 0 (by decide)) 7).trans h07⟩ (by rw [uK 3 (by decide), uD 4 (by decide), uD 5 (by decide)]; exact hTT)
    · -- 36 not: ¬ nI ((nv (E 0 0))) ≤ nI x
      have kz36 : x < (nv (E 0 0)) := knle (a := (nv (E 0 0))) (b := x) rfl rfl (by omega) (by omega) cz36
      refine And.intro (Wdo_87 hW) (Exists.intro _ (And.intro (Wdr_87_0 hW) ?_))
      refine And.intro ⟨by omega, Nat.le_of_ble_eq_true rfl, Nat.le_refl _, Nat.le_refl _⟩ (And.intro (Wdo_88 hW) ?_)
      have hln : (plF B n i) + x < n := by
        have hin := rn_in (f := nI 97) (l := nI 122) (B := B) (n := n) (p := (plF B n i)) (j := x) (by show x < leT B n i; have := hle; omega)
        exact hin.1
      refine D111 (p := (plF B n i)) (x := x) hW hB2 hdj t5 t2 tB hln hn ?_
      refine And.intro (fun cz45 => ?_) (fun cz45 => ?_)
      · -- 45 taken: (B ((plF B n i) + x)) - nI 97 < 0
        refine And.intro ⟨by omega, Nat.le_of_ble_eq_true rfl, Nat.le_refl _, Nat.le_refl _⟩ (And.intro (Wdo_87 hW) ?_)
        refine D84 hW hB2 hdj ?_
        refine And.intro ⟨rfl, Or.inl rfl, Nat.le_refl _, Nat.le_refl _⟩ ?_
        exact hF _ _ _ 7 (plF B n i) (by unfold rowL; rw [if_pos kk2, if_pos hlw, if_neg (fun z => absurd cz45 (z x (by omega)).1)]) rfl t5 t1
      · -- 45 not: ¬ (B ((plF B n i) + x)) - nI 97 < 0
        refine And.intro (fun cz48 => ?_) (fun cz48 => ?_)
        · -- 48 taken: nI 5 ≤ (B ((plF B n i) + x)) - nI 97
          refine And.intro ⟨by omega, Nat.le_of_ble_eq_true rfl, Nat.le_refl _, Nat.le_refl _⟩ (And.intro (Wdo_87 hW) ?_)
          refine D84 hW hB2 hdj ?_
          refine And.intro ⟨rfl, Or.inl rfl, Nat.le_refl _, Nat.le_refl _⟩ ?_
          exact hF _ _ _ 7 (plF B n i) (by unfold rowL; rw [if_pos kk2, if_pos hlw, if_neg (fun z => absurd cz48 (z x (by omega)).2)]) rfl t5 t1
        · -- 48 not: ¬ nI 5 ≤ (B ((plF B n i) + x)) - nI 97
          refine And.intro (fun cz53 => ?_) (fun cz53 => ?_)
          · -- 53 taken: (nI ((nv (E 1 1) * nv (E 0 0)))) + nI x < nI 24
            have kz53 : (nv (E 1 1) * nv (E 0 0)) + x < 24 := klt (a := (nv (E 1 1) * nv (E 0 0)) + x) (b := 24) (by simp only [nI_add, pk_mul]) rfl (by omega) (by omega) cz53
            refine And.intro (Wdo_87 hW) (Exists.intro _ (And.intro hb4 ?_))
            refine And.intro (LWo_0 hB2) (Exists.intro _ (And.intro (LWr_0_5 hB2) ?_))
            have ez65 : (nI ((nv (E 1 1) * nv (E 0 0)))) + nI x = nI ((nv (E 1 1) * nv (E 0 0)) + x) := by simp only [nI_add, pk_mul]
            refine And.intro (LWi_2 hB2 (vi ez65 (by omega))) ?_
            rw [vc ez65 (by omega)]
            rw [pp_u2 (y := b) (f := 2) (by omega) (by decide)]
            show Jj sc d 0 0 (mth 62) (pg P62 32).1 [some (.ref 87), some (.int (nI ((nv (E 1 1) * nv (E 0 0))))), some (.int (nI x + nI 1)), some (.int ((B ((plF B n i) + x)) - nI 97))] [] (pp m 87 6 D K b 19 (ud (rwQ B (nv (E 1 1) * nv (E 0 0)) (plF B n i) E x) 2 ((nv (E 1 1) * nv (E 0 0)) + x) ((B ((plF B n i) + x)) - nI 97)) L) 0 0 Q
            rw [show nI x + nI 1 = nI (x + 1) from by simp only [nI_add, pk_mul]]
            refine J_wk (L' := [some (.ref 87), some (.int (nI ((nv (E 1 1) * nv (E 0 0))))), some (.int (nI (x + 1))), none]) ⟨rfl, rfl, rfl, trivial⟩ ?_
            have hall2 : ∀ x1, x1 < x + 1 → soP (B ((plF B n i) + x1)) := by
              intro v9 h9
              rcases Nat.lt_or_ge v9 x with q9 | q9
              · exact hall v9 q9
              · have ez9 : v9 = x := by omega
                rw [ez9]
                exact ⟨cz45, cz48⟩
            have z := ih (x + 1) (by omega) (by omega) hall2
            rw [rwQ_s] at z
            exact z
          · -- 53 not: ¬ (nI ((nv (E 1 1) * nv (E 0 0)))) + nI x < nI 24
            have kz53 : 24 ≤ (nv (E 1 1) * nv (E 0 0)) + x := knlt (a := (nv (E 1 1) * nv (E 0 0)) + x) (b := 24) (by simp only [nI_add, pk_mul]) rfl (by omega) (by omega) cz53
            refine And.intro ⟨by omega, Nat.le_of_ble_eq_true rfl, Nat.le_refl _, Nat.le_refl _⟩ (And.intro (Wdo_87 hW) ?_)
            refine D84 hW hB2 hdj ?_
            refine And.intro ⟨rfl, Or.inl rfl, Nat.le_refl _, Nat.le_refl _⟩ ?_
            omega
theorem L62 {d : Nat} {m : Mm} {Q : Option Value → Mm → Prop} {b : Nat} {E : Nat → Nat → Int32} {L : Nat → Nat → Int64} (hW : Wd m.2.2) (hB2 : LW m.2.2 b) (hdj : b + 19 ≤ 87 ∨ 87 + 6 ≤ b) {D : Nat → Nat → Int32} {K : Nat → Nat → Int64} {B : Nat → Int32} {n i : Nat} {T : NT} (hd : 10 ≤ d) (hb4 : va_rf (mR m 87 4) = .ref b) (hR : RS B n T.1 i D K) (hTT : T = (T.1, K 3, D 4, D 5)) (hk24 : T.1 ≤ 24) (hw : E 0 0 = nI (nv (E 0 0))) (hw6 : nv (E 0 0) ≤ 6) (hr : E 1 1 = nI (nv (E 1 1))) (hrw : nv (E 1 1) * nv (E 0 0) + nv (E 0 0) ≤ 24) (hF : ∀ D1 K1 E1 f p, rowL T E B n i = .inl (f, p) → D1 0 7 = nI f → D1 0 8 = nI p → D1 1 1 = nI 0 → Q (some (.int (nI 0))) (pp m 87 6 D1 K1 b 19 E1 L)) (hO : ∀ (D1 : Nat → Nat → Int32) (K1 : Nat → Nat → Int64) E1 (T1 : NT) j, rowL T E B n i = .inr (T1, E1, j) → RS B n T1.1 j D1 K1 → T1 = (T1.1, K1 3, D1 4, D1 5) → Q (some (.int (nI 1))) (pp m 87 6 D1 K1 b 19 E1 L))  : Cc d 0 0 62 [.ref 87] (pp m 87 6 D K b 19 E L) Q := by
  obtain ⟨hT, hi, hn, h05, h07⟩ := id hR
  have tB := hT.1
  have t2 := hT.2.1
  have t5 := hT.2.2.1
  have t4 := hT.2.2.2.1
  have t3 := hT.2.2.2.2.1
  have tw := hT.2.2.2.2.2.1
  have t1 := hT.2.2.2.2.2.2.2.2
  refine ent (n := 166) z62 (by decide) rfl (by decide) (Nat.le_of_ble_eq_true rfl) (fun sc => ?_)
  refine And.intro (Wdo_87 hW) (Exists.intro _ (And.intro (Wdr_87_0 hW) ?_))
  refine And.intro (Wdo_88 hW) ?_
  rw [pp_1 (x := 87) (f := 1) (by decide)]
  refine And.intro (fun cz4 => ?_) (fun cz4 => ?_)
  · -- 4 taken: D 1 4 = nI 2
    refine And.intro (Wdo_87 hW) (Exists.intro _ (And.intro (Wdr_87_0 hW) ?_))
    refine And.intro (Wdo_88 hW) ?_
    rw [pp_1 (x := 87) (f := 1) (by decide)]
    refine And.intro (Wdo_87 hW) (Exists.intro _ (And.intro hb4 ?_))
    refine And.intro (LWo_0 hB2) ?_
    rw [pp_20 (y := b) (by omega) (by decide)]
    rw [hw]
    refine And.intro (fun cz15 => ?_) (fun cz15 => ?_)
    · -- 15 taken: D 1 6 = nI ((nv (E 0 0)))
      refine And.intro (Wdo_87 hW) (Exists.intro _ (And.intro hb4 ?_))
      refine And.intro (LWo_0 hB2) (Exists.intro _ (And.intro (LWr_0_4 hB2) ?_))
      refine And.intro (LWi_1 hB2 (vi rfl (by omega))) ?_
      rw [nI_clamp (show 1 < 2 ^ 31 by omega)]
      rw [pp_2 (y := b) (f := 1) (by omega) (by decide)]
      rw [hr]
      refine And.intro (Wdo_87 hW) (Exists.intro _ (And.intro hb4 ?_))
      refine And.intro (LWo_0 hB2) ?_
      rw [pp_20 (y := b) (by omega) (by decide)]
      rw [hw]
      show Jj sc d 0 0 (mth 62) (pg P62 32).1 [some (.ref 87), some (.int ((nI ((nv (E 1 1)))) * (nI ((nv (E 0 0)))))), some (.int (nI 0)), none] [] (pp m 87 6 D K b 19 E L) 0 0 Q
      rw [show (nI ((nv (E 1 1)))) * (nI ((nv (E 0 0)))) = nI (((nv (E 1 1))) * ((nv (E 0 0)))) from by simp only [nI_add, pk_mul]]
      have kk2 := (ki_q (c := 2) t4 (by decide)).mp cz4
      have hlw : nI (leT B n i) = E 0 0 := ((tw kk2).1.symm.trans cz15).trans hw.symm
      have hll : leT B n i ≤ 1200 := by have h1 := rn_le (f := nI 97) (l := nI 122) (B := B) (n := n) (plF_le (B := B) hi); have h2 : plF B n i + leT B n i ≤ n := h1; omega
      have hle : leT B n i = (nv (E 0 0)) := (nI_eq (by omega) (by omega)).mp (hlw.trans hw)
      exact lq62 hW hB2 hdj hd hb4 hR hTT hk24 hw hw6 hr hrw hF hO kk2 hlw hle ((nv (E 0 0)) + 1) 0 (Nat.zero_le _) (by omega) (fun _ h => absurd h (by omega))
    · -- 15 not: ¬ D 1 6 = nI ((nv (E 0 0)))
      refine And.intro ⟨by omega, Nat.le_of_ble_eq_true rfl, Nat.le_refl _, Nat.le_refl _⟩ (And.intro (Wdo_87 hW) ?_)
      refine D84 hW hB2 hdj ?_
      refine And.intro ⟨rfl, Or.inl rfl, Nat.le_refl _, Nat.le_refl _⟩ ?_
      have kk2 := (ki_q (c := 2) t4 (by decide)).mp cz4
      exact hF _ _ _ 7 (plF B n i) (by unfold rowL; rw [if_pos kk2, if_neg (fun z => cz15 (((tw kk2).1.trans z).trans hw))]) rfl t5 t1
  · -- 4 not: ¬ D 1 4 = nI 2
    refine And.intro ⟨by omega, Nat.le_of_ble_eq_true rfl, Nat.le_refl _, Nat.le_refl _⟩ (And.intro (Wdo_87 hW) ?_)
    refine D84 hW hB2 hdj ?_
    refine And.intro ⟨rfl, Or.inl rfl, Nat.le_refl _, Nat.le_refl _⟩ ?_
    exact hF _ _ _ 1 (plF B n i) (if_neg (fun z => cz4 ((ki_q t4 (by decide)).mpr z))) rfl t5 t1
