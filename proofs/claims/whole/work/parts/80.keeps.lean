theorem C187 {d : Nat} {m : Mm} {Q : Option Value → Mm → Prop} {f w : Nat} (hd : 3 ≤ d) (hW : Wd m.2.2) (hf : f < 12) (hw : w ≤ 12) (h2 : mI m 24 2 = nI f) (h3 : mI m 24 3 = nI w) (hQ : ∀ m9, akP (mI m) (mI m9) f w → m9.2.2 = m.2.2 → Q none (uI m9 0 12 (nI 1))) : Cc d 0 0 187 [.ref 0] m Q := by
  refine ent (n := 38) z187 (by decide) rfl (by decide) (Nat.le_of_ble_eq_true rfl) (fun sc => ?_)
  refine And.intro (Wdo_0 hW) (Exists.intro _ (And.intro (Wdr_0_5 hW) ?_))
  refine And.intro (Wdo_0 hW) (Exists.intro _ (And.intro (Wdr_0_4 hW) ?_))
  refine And.intro ⟨by omega, Nat.le_of_ble_eq_true rfl, Nat.le_refl _, Nat.le_refl _⟩ (And.intro (Wdo_24 hW) ?_)
  refine C51 (f := f) (w := w) (by omega) hW hf hw h2 h3 (fun m9 hak h22 => ?_)
  have hW9 : Wd m9.2.2 := by rw [h22]; exact hW
  refine And.intro (Wdo_0 hW9) (And.intro (Or.inr rfl) ?_)
  refine And.intro ⟨rfl, rfl, Nat.le_refl _, Nat.le_refl _⟩ ?_
  exact hQ m9 hak h22
def shF (f : Nat → Int32) (i : Nat) : Nat → Int32 := fun x => if x < i then f (x + 48) else f x
theorem shF_s {f : Nat → Int32} {i : Nat} : upd (shF f i) i (shF f i (i + 48)) = shF f (i + 1) := by
  funext x
  by_cases e : x = i
  · rw [e, upd_e]
    unfold shF
    rw [if_neg (by omega), if_pos (by omega)]
  · rw [upd_o e]
    unfold shF
    by_cases h : x < i
    · rw [if_pos h, if_pos (by omega)]
    · rw [if_neg h, if_neg (by omega)]
theorem shF_0 {f : Nat → Int32} : shF f 0 = f := funext fun _ => rfl
def keP (I J : Nat → Nat → Int32) (w : Nat) : Prop := (∀ r, r ≠ 142 → r ≠ 146 → J r = I r) ∧ (∀ x, x ≠ 21 → J 142 x = I 142 x) ∧ J 142 21 = nI (if w = 12 then 12 else w + 1) ∧ J 146 = cpF (if w = 12 then shF (I 146) 528 else I 146) (I 145) (48 * (if w = 12 then 11 else w)) 48
theorem lkep_b {sc : Nat × (Nat → Int32)} {d : Nat} {m : Mm} {Q : Option Value → Mm → Prop} {w : Nat} (hW : Wd m.2.2) (hw : w < 12) (h3 : mI m 142 21 = nI w) (hQ : Q none (uI (rI m 146 (cpF (mI m 146) (mI m 145) (48 * w) 48)) 142 21 (nI w + nI 1)))  : ∀ (j i : Nat), i ≤ 48 → 48 + 1 ≤ i + j → Jj sc d 0 0 (mth 322) (pg P322 29).1 [some (.ref 142), some (.int (nI i))] [] (rI m 146 (cpF (mI m 146) (mI m 145) (48 * w) i)) 0 0 Q := by
  intro j
  induction j with
  | zero => intro i h1 h2; omega
  | succ j ih =>
    intro i h1 h2
    refine J_w z322 (i := 29) (by decide) 128 ?_
    refine And.intro (fun cz31 => ?_) (fun cz31 => ?_)
    · -- 31 taken: nI 48 ≤ nI i
      have kz31 : 48 ≤ i := kle (a := 48) (b := i) rfl rfl (by omega) (by omega) cz31
      refine And.intro rfl ?_
      refine And.intro (Wdo_142 hW) ?_
      rw [((congrFun (rI_ne (by decide)) 21).trans h3)]
      refine And.intro (Wdo_142 hW) ?_
      refine And.intro ⟨rfl, rfl, Nat.le_refl _, Nat.le_refl _⟩ ?_
      rw [show i = 48 by omega]
      exact hQ
    · -- 31 not: ¬ nI 48 ≤ nI i
      have kz31 : i < 48 := knle (a := 48) (b := i) rfl rfl (by omega) (by omega) cz31
      refine And.intro (Wdo_142 hW) (Exists.intro _ (And.intro (Wdr_142_19 hW) ?_))
      refine And.intro (Wdo_142 hW) ?_
      rw [((congrFun (rI_ne (by decide)) 21).trans h3)]
      refine And.intro (Wdo_142 hW) (Exists.intro _ (And.intro (Wdr_142_18 hW) ?_))
      refine And.intro (Wdi_145 hW (vi rfl (by omega))) ?_
      rw [nI_clamp (show i < 2 ^ 31 by omega)]
      rw [(congrFun (rI_ne (m := m) (a := 146) (b := 145) (by decide)) i)]
      have ez44 : (nI 48 * nI w) + nI i = nI (48 * w + i) := by simp only [nI_add, pk_mul]
      refine And.intro (Wdi_146 hW (vi ez44 (by omega))) ?_
      rw [vc ez44 (by omega)]
      rw [uI_rI, cpF_s]
      show Jj sc d 0 0 (mth 322) (pg P322 29).1 [some (.ref 142), some (.int (nI i + nI 1))] [] (rI m 146 (cpF (mI m 146) (mI m 145) (48 * w) (i + 1))) 0 0 Q
      rw [show nI i + nI 1 = nI (i + 1) from by simp only [nI_add, pk_mul]]
      exact ih (i + 1) (by omega) (by omega)
theorem lkep_a {sc : Nat × (Nat → Int32)} {d : Nat} {m : Mm} {Q : Option Value → Mm → Prop} (hW : Wd m.2.2) (h3 : mI m 142 21 = nI 12) (hQ : Q none (uI (rI (uI (rI m 146 (shF (mI m 146) 528)) 142 21 (nI 12 - nI 1)) 146 (cpF (mI (uI (rI m 146 (shF (mI m 146) 528)) 142 21 (nI 12 - nI 1)) 146) (mI (uI (rI m 146 (shF (mI m 146) 528)) 142 21 (nI 12 - nI 1)) 145) (48 * 11) 48)) 142 21 (nI 11 + nI 1)))  : ∀ (j i : Nat), i ≤ 528 → 528 + 1 ≤ i + j → Jj sc d 0 0 (mth 322) (pg P322 6).1 [some (.ref 142), some (.int (nI i))] [] (rI m 146 (shF (mI m 146) i)) 0 0 Q := by
  intro j
  induction j with
  | zero => intro i h1 h2; omega
  | succ j ih =>
    intro i h1 h2
    refine J_w z322 (i := 6) (by decide) 128 ?_
    refine And.intro (fun cz8 => ?_) (fun cz8 => ?_)
    · -- 8 taken: nI 528 ≤ nI i
      have kz8 : 528 ≤ i := kle (a := 528) (b := i) rfl rfl (by omega) (by omega) cz8
      refine And.intro rfl ?_
      refine And.intro (Wdo_142 hW) ?_
      rw [((congrFun (rI_ne (by decide)) 21).trans h3)]
      refine And.intro (Wdo_142 hW) ?_
      show Jj sc d 0 0 (mth 322) (pg P322 29).1 [some (.ref 142), some (.int (nI 0))] [] (uI (rI m 146 (shF (mI m 146) i)) 142 21 (nI 12 - nI 1)) 0 0 Q
      rw [show i = 528 by omega]
      have w9 := lkep_b (sc := sc) (d := d) (m := (uI (rI m 146 (shF (mI m 146) 528)) 142 21 (nI 12 - nI 1))) (Q := Q) (w := 11) hW (by decide) (by rw [uI_eq, upd_e]; decide) hQ 49 0 (by decide) (by decide)
      rw [cpF_0, rI_self] at w9
      exact w9
    · -- 8 not: ¬ nI 528 ≤ nI i
      have kz8 : i < 528 := knle (a := 528) (b := i) rfl rfl (by omega) (by omega) cz8
      refine And.intro (Wdo_142 hW) (Exists.intro _ (And.intro (Wdr_142_19 hW) ?_))
      refine And.intro (Wdo_142 hW) (Exists.intro _ (And.intro (Wdr_142_19 hW) ?_))
      have ez17 : nI i + nI 48 = nI (i + 48) := by simp only [nI_add, pk_mul]
      refine And.intro (Wdi_146 hW (vi ez17 (by omega))) ?_
      rw [vc ez17 (by omega)]
      rw [rI_eq]
      refine And.intro (Wdi_146 hW (vi rfl (by omega))) ?_
      rw [nI_clamp (show i < 2 ^ 31 by omega)]
      rw [uI_rI, shF_s]
      show Jj sc d 0 0 (mth 322) (pg P322 6).1 [some (.ref 142), some (.int (nI i + nI 1))] [] (rI m 146 (shF (mI m 146) (i + 1))) 0 0 Q
      rw [show nI i + nI 1 = nI (i + 1) from by simp only [nI_add, pk_mul]]
      exact ih (i + 1) (by omega) (by omega)
theorem keP_a {m : Mm} {w : Nat} (hw : w < 12) : keP (mI m) (mI (uI (rI m 146 (cpF (mI m 146) (mI m 145) (48 * w) 48)) 142 21 (nI w + nI 1))) w := by
  refine ⟨fun r h1 h2 => by rw [uI_ne h1, rI_ne h2], fun x hx => by rw [uI_eq, upd_o hx, rI_ne (by decide)], ?_, ?_⟩
  · rw [uI_eq, upd_e, if_neg (by omega), nI_add]
  · rw [uI_ne (by decide), rI_eq, if_neg (by omega), if_neg (by omega)]
theorem keP_b {m : Mm} (h3 : mI m 142 21 = nI 12) : keP (mI m) (mI (uI (rI (uI (rI m 146 (shF (mI m 146) 528)) 142 21 (nI 12 - nI 1)) 146 (cpF (mI (uI (rI m 146 (shF (mI m 146) 528)) 142 21 (nI 12 - nI 1)) 146) (mI (uI (rI m 146 (shF (mI m 146) 528)) 142 21 (nI 12 - nI 1)) 145) (48 * 11) 48)) 142 21 (nI 11 + nI 1))) 12 := by
  refine ⟨fun r h1 h2 => by rw [uI_ne h1, rI_ne h2, uI_ne h1, rI_ne h2], fun x hx => by rw [uI_eq, upd_o hx, rI_ne (by decide), uI_eq, upd_o hx, rI_ne (by decide)], ?_, ?_⟩
  · rw [uI_eq, upd_e, if_pos rfl]; decide
  · rw [uI_ne (by decide), rI_eq, if_pos rfl, if_pos rfl, uI_ne (by decide), rI_eq, uI_ne (by decide), rI_ne (by decide)]
theorem C322 {d : Nat} {m : Mm} {Q : Option Value → Mm → Prop} {w : Nat} (hW : Wd m.2.2) (hw : w ≤ 12) (h3 : mI m 142 21 = nI w) (hQ : ∀ m9, keP (mI m) (mI m9) w → m9.2.2 = m.2.2 → Q none m9) : Cc d 0 0 322 [.ref 142] m Q := by
  refine ent (n := 128) z322 (by decide) rfl (by decide) (Nat.le_of_ble_eq_true rfl) (fun sc => ?_)
  refine And.intro (Wdo_142 hW) ?_
  rw [h3]
  refine And.intro (fun cz3 => ?_) (fun cz3 => ?_)
  · -- 3 taken: ¬ nI w = nI 12
    have kz3 : w ≠ 12 := kne (a := w) (b := 12) rfl rfl (by omega) (by omega) cz3
    show Jj sc d 0 0 (mth 322) (pg P322 29).1 [some (.ref 142), some (.int (nI 0))] [] m 0 0 Q
    have hgo := hQ _ (keP_a (m := m) (w := w) (by omega)) (by rw [uI_22, rI_22])
    have w9 := lkep_b (sc := sc) (d := d) (m := m) (Q := Q) (w := w) hW (by omega) h3 hgo 49 0 (by decide) (by decide)
    rw [cpF_0, rI_self] at w9
    exact w9
  · -- 3 not: nI w = nI 12
    have kz3 : w = 12 := keq (a := w) (b := 12) rfl rfl (by omega) (by omega) cz3
    show Jj sc d 0 0 (mth 322) (pg P322 6).1 [some (.ref 142), some (.int (nI 0))] [] m 0 0 Q
    subst kz3
    have hgo := hQ _ (keP_b (m := m) h3) (by rw [uI_22, rI_22, uI_22, rI_22])
    have w9 := lkep_a (sc := sc) (d := d) (m := m) (Q := Q) hW h3 hgo 529 0 (by decide) (by decide)
    rw [shF_0, rI_self] at w9
    exact w9
