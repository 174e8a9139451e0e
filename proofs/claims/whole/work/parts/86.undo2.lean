theorem cpV {f g : Nat → Int32} {o i : Nat} (h : i ≤ 48) : upd (cpF f (fun x => g (o + x)) 0 i) i (g (o + i)) = cpF f (fun x => g (o + x)) 0 (i + 1) := by
  have := cpF_s (f := f) (g := fun x => g (o + x)) (o := 0) (n := i)
  rw [Nat.zero_add] at this
  exact this
theorem lund {sc : Nat × (Nat → Int32)} {d : Nat} {m : Mm} {Q : Option Value → Mm → Prop} {w : Nat} (hd : 2 ≤ d) (hW : Wd m.2.2) (hw : w < 12) (h3 : mI m 142 21 = nI w) (hQ : Q (some (.int (nI 1))) (uI (uI (rI m 145 (cpF (mI m 145) (fun x => mI m 146 (48 * w + x)) 0 48)) 142 1 (nI 0)) 142 2 (-nI 1)))  : ∀ (j i : Nat), i ≤ 48 → 48 + 1 ≤ i + j → Jj sc d 0 0 (mth 329) (pg P329 21).1 [some (.ref 142), some (.int (nI i))] [] (rI m 145 (cpF (mI m 145) (fun x => mI m 146 (48 * w + x)) 0 i)) 0 0 Q := by
  intro j
  induction j with
  | zero => intro i h1 h2; omega
  | succ j ih =>
    intro i h1 h2
    refine J_w z329 (i := 21) (by decide) 104 ?_
    refine And.intro (fun cz23 => ?_) (fun cz23 => ?_)
    · -- 23 taken: nI 48 ≤ nI i
      have kz23 : 48 ≤ i := kle (a := 48) (b := i) rfl rfl (by omega) (by omega) cz23
      refine And.intro ⟨by omega, Nat.le_of_ble_eq_true rfl, Nat.le_refl _, Nat.le_refl _⟩ (And.intro (Wdo_142 hW) ?_)
      refine C203 (m := (rI m 145 (cpF (mI m 145) (fun x => mI m 146 (48 * w + x)) 0 i))) (by omega) hW ?_
      refine And.intro ⟨rfl, Or.inr rfl, Nat.le_refl _, Nat.le_refl _⟩ ?_
      rw [show i = 48 by omega]
      exact hQ
    · -- 23 not: ¬ nI 48 ≤ nI i
      have kz23 : i < 48 := knle (a := 48) (b := i) rfl rfl (by omega) (by omega) cz23
      refine And.intro (Wdo_142 hW) (Exists.intro _ (And.intro (Wdr_142_18 hW) ?_))
      refine And.intro (Wdo_142 hW) (Exists.intro _ (And.intro (Wdr_142_19 hW) ?_))
      refine And.intro (Wdo_142 hW) ?_
      rw [((congrFun (rI_ne (by decide)) 21).trans h3)]
      have ez35 : (nI 48 * nI w) + nI i = nI (48 * w + i) := by simp only [nI_add, pk_mul]
      refine And.intro (Wdi_146 hW (vi ez35 (by omega))) ?_
      rw [vc ez35 (by omega)]
      rw [(congrFun (rI_ne (m := m) (a := 145) (b := 146) (by decide)) (48 * w + i))]
      refine And.intro (Wdi_145 hW (vi rfl (by omega))) ?_
      rw [nI_clamp (show i < 2 ^ 31 by omega)]
      rw [uI_rI, cpV (g := mI m 146) (by omega)]
      show Jj sc d 0 0 (mth 329) (pg P329 21).1 [some (.ref 142), some (.int (nI i + nI 1))] [] (rI m 145 (cpF (mI m 145) (fun x => mI m 146 (48 * w + x)) 0 (i + 1))) 0 0 Q
      rw [show nI i + nI 1 = nI (i + 1) from by simp only [nI_add, pk_mul]]
      exact ih (i + 1) (by omega) (by omega)
theorem lmrk {sc : Nat × (Nat → Int32)} {d : Nat} {m : Mm} {Q : Option Value → Mm → Prop} {y : Nat} (hd : 1 ≤ d) (hW : Wd m.2.2) (hy : y < 3) (h3 : mI m 142 22 = nI y) (hQ : Q (some (.int (nI y))) (uI (uI (uI (rI m 147 (cpF (mI m 147) (mI m 145) (48 * y) 48)) 142 22 (nI y + nI 1)) 142 1 (nI 0)) 142 2 (-nI 1)))  : ∀ (j i : Nat), i ≤ 48 → 48 + 1 ≤ i + j → Jj sc d 0 0 (mth 330) (pg P330 20).1 [some (.ref 142), some (.int (nI i))] [] (rI m 147 (cpF (mI m 147) (mI m 145) (48 * y) i)) 0 0 Q := by
  intro j
  induction j with
  | zero => intro i h1 h2; omega
  | succ j ih =>
    intro i h1 h2
    refine J_w z330 (i := 20) (by decide) 122 ?_
    refine And.intro (fun cz22 => ?_) (fun cz22 => ?_)
    · -- 22 taken: nI 48 ≤ nI i
      have kz22 : 48 ≤ i := kle (a := 48) (b := i) rfl rfl (by omega) (by omega) cz22
      refine And.intro rfl ?_
      refine And.intro (Wdo_142 hW) ?_
      rw [((congrFun (rI_ne (by decide)) 22).trans h3)]
      refine And.intro (Wdo_142 hW) ?_
      refine And.intro (Wdo_142 hW) ?_
      refine And.intro ⟨by omega, Nat.le_of_ble_eq_true rfl, Nat.le_refl _, Nat.le_refl _⟩ (And.intro (Wdo_142 hW) ?_)
      refine C202 (m := (uI (rI m 147 (cpF (mI m 147) (mI m 145) (48 * y) i)) 142 22 (nI y + nI 1))) hW ?_
      refine And.intro ⟨rfl, trivial, Nat.le_refl _, Nat.le_refl _⟩ ?_
      rw [show i = 48 by omega]
      rw [show mI (uI (rI m 147 (cpF (mI m 147) (mI m 145) (48 * y) 48)) 142 22 (nI y + nI 1)) 142 22 - nI 1 = nI y from by rw [uI_eq, upd_e, nI_add, pk_sub (by omega), Nat.add_sub_cancel]]
      exact hQ
    · -- 22 not: ¬ nI 48 ≤ nI i
      have kz22 : i < 48 := knle (a := 48) (b := i) rfl rfl (by omega) (by omega) cz22
      refine And.intro (Wdo_142 hW) (Exists.intro _ (And.intro (Wdr_142_20 hW) ?_))
      refine And.intro (Wdo_142 hW) ?_
      rw [((congrFun (rI_ne (by decide)) 22).trans h3)]
      refine And.intro (Wdo_142 hW) (Exists.intro _ (And.intro (Wdr_142_18 hW) ?_))
      refine And.intro (Wdi_145 hW (vi rfl (by omega))) ?_
      rw [nI_clamp (show i < 2 ^ 31 by omega)]
      rw [(congrFun (rI_ne (m := m) (a := 147) (b := 145) (by decide)) i)]
      have ez35 : (nI 48 * nI y) + nI i = nI (48 * y + i) := by simp only [nI_add, pk_mul]
      refine And.intro (Wdi_147 hW (vi ez35 (by omega))) ?_
      rw [vc ez35 (by omega)]
      rw [uI_rI, cpF_s]
      show Jj sc d 0 0 (mth 330) (pg P330 20).1 [some (.ref 142), some (.int (nI i + nI 1))] [] (rI m 147 (cpF (mI m 147) (mI m 145) (48 * y) (i + 1))) 0 0 Q
      rw [show nI i + nI 1 = nI (i + 1) from by simp only [nI_add, pk_mul]]
      exact ih (i + 1) (by omega) (by omega)
theorem lbck {sc : Nat × (Nat → Int32)} {d : Nat} {m : Mm} {Q : Option Value → Mm → Prop} {j9 : Nat} (hd : 2 ≤ d) (hW : Wd m.2.2) (hj : j9 < 3) (hQ : Q (some (.int (nI 1))) (uI (uI (uI (rI m 145 (cpF (mI m 145) (fun x => mI m 147 (48 * j9 + x)) 0 48)) 142 21 (nI 0)) 142 1 (nI 0)) 142 2 (-nI 1)))  : ∀ (j i : Nat), i ≤ 48 → 48 + 1 ≤ i + j → Jj sc d 0 0 (mth 331) (pg P331 18).1 [some (.ref 142), some (.int (nI j9)), some (.int (nI i))] [] (rI m 145 (cpF (mI m 145) (fun x => mI m 147 (48 * j9 + x)) 0 i)) 0 0 Q := by
  intro j
  induction j with
  | zero => intro i h1 h2; omega
  | succ j ih =>
    intro i h1 h2
    refine J_w z331 (i := 18) (by decide) 102 ?_
    refine And.intro (fun cz20 => ?_) (fun cz20 => ?_)
    · -- 20 taken: nI 48 ≤ nI i
      have kz20 : 48 ≤ i := kle (a := 48) (b := i) rfl rfl (by omega) (by omega) cz20
      refine And.intro (Wdo_142 hW) ?_
      refine And.intro ⟨by omega, Nat.le_of_ble_eq_true rfl, Nat.le_refl _, Nat.le_refl _⟩ (And.intro (Wdo_142 hW) ?_)
      refine C203 (m := (uI (rI m 145 (cpF (mI m 145) (fun x => mI m 147 (48 * j9 + x)) 0 i)) 142 21 (nI 0))) (by omega) hW ?_
      refine And.intro ⟨rfl, Or.inr rfl, Nat.le_refl _, Nat.le_refl _⟩ ?_
      rw [show i = 48 by omega]
      exact hQ
    · -- 20 not: ¬ nI 48 ≤ nI i
      have kz20 : i < 48 := knle (a := 48) (b := i) rfl rfl (by omega) (by omega) cz20
      refine And.intro (Wdo_142 hW) (Exists.intro _ (And.intro (Wdr_142_18 hW) ?_))
      refine And.intro (Wdo_142 hW) (Exists.intro _ (And.intro (Wdr_142_20 hW) ?_))
      have ez31 : (nI 48 * nI j9) + nI i = nI (48 * j9 + i) := by simp only [nI_add, pk_mul]
      refine And.intro (Wdi_147 hW (vi ez31 (by omega))) ?_
      rw [vc ez31 (by omega)]
      rw [(congrFun (rI_ne (m := m) (a := 145) (b := 147) (by decide)) (48 * j9 + i))]
      refine And.intro (Wdi_145 hW (vi rfl (by omega))) ?_
      rw [nI_clamp (show i < 2 ^ 31 by omega)]
      rw [uI_rI, cpV (g := mI m 147) (by omega)]
      show Jj sc d 0 0 (mth 331) (pg P331 18).1 [some (.ref 142), some (.int (nI j9)), some (.int (nI i + nI 1))] [] (rI m 145 (cpF (mI m 145) (fun x => mI m 147 (48 * j9 + x)) 0 (i + 1))) 0 0 Q
      rw [show nI i + nI 1 = nI (i + 1) from by simp only [nI_add, pk_mul]]
      exact ih (i + 1) (by omega) (by omega)
