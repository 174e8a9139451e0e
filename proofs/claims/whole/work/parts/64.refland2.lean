def fpos {α : Type} (x : Rs α) : Prop := ∀ e, x = .inl e → 1 ≤ e.1 ∧ e.1 ≤ 7
theorem fp_l {α : Type} {w p : Nat} (h1 : 1 ≤ w) (h7 : w ≤ 7) : fpos (.inl (w, p) : Rs α) := fun e h => by
  rw [← Sum.inl.inj h]
  exact ⟨h1, h7⟩
theorem fp_r {α : Type} {a : α} : fpos (.inr a : Rs α) := fun e h => by cases h
theorem fp_if {α : Type} {p : Prop} [Decidable p] {x y : Rs α} (hx : fpos x) (hy : fpos y) : fpos (if p then x else y) := by
  split
  · exact hx
  · exact hy
theorem fp_rb {α β : Type} {x : Rs α} {f : α → Rs β} (hx : fpos x) (hf : ∀ a, fpos (f a)) : fpos (rb x f) := by
  cases x with
  | inl e => exact fun ez2 h => hx ez2 (congrArg Sum.inl (Sum.inl.inj h))
  | inr a => exact hf a
theorem fp_W {cc : Int64} {B : Nat → Int32} {n i : Nat} : fpos (pWord cc B n i) := by
  unfold pWord; repeat (first | exact fp_r | exact fp_l (by decide) (by decide) | refine fp_if ?_ ?_ | refine fp_rb ?_ (fun _ => ?_))
theorem fp_S {cc : Int32} {B : Nat → Int32} {n i : Nat} : fpos (pSign cc B n i) := by
  unfold pSign; repeat (first | exact fp_r | exact fp_l (by decide) (by decide) | refine fp_if ?_ ?_ | refine fp_rb ?_ (fun _ => ?_))
theorem fp_P {cs : List Int64} {B : Nat → Int32} {n i : Nat} : fpos (pPick cs B n i) := by
  unfold pPick; repeat (first | exact fp_r | exact fp_l (by decide) (by decide) | refine fp_if ?_ ?_ | refine fp_rb ?_ (fun _ => ?_))
theorem fp_H {x y : Int32} {B : Nat → Int32} {n i : Nat} : fpos (pWhole x y B n i) := by
  unfold pWhole; repeat (first | exact fp_r | exact fp_l (by decide) (by decide) | refine fp_if ?_ ?_ | refine fp_rb ?_ (fun _ => ?_))
theorem fp_G {y : Int32} {B : Nat → Int32} {n i : Nat} : fpos (pGround y B n i) := by
  unfold pGround; repeat (first | exact fp_r | exact fp_l (by decide) (by decide) | refine fp_if ?_ ?_ | refine fp_rb ?_ (fun _ => ?_))
theorem fp_U {T : NT} {so n i : Nat} {B : Nat → Int32} : fpos (tUse T so B n i) := by
  unfold tUse pUse; repeat (first | exact fp_r | exact fp_l (by decide) (by decide) | refine fp_if ?_ ?_ | refine fp_rb ?_ (fun _ => ?_))
theorem fp_A {T : NT} {n i : Nat} {B : Nat → Int32} : fpos (pAnyT T B n i) := by
  unfold pAnyT; repeat (first | exact fp_r | exact fp_l (by decide) (by decide) | exact fp_U | refine fp_if ?_ ?_ | refine fp_rb ?_ (fun _ => ?_))
theorem fp_L {cs : Nat → Int64} {w n i : Nat} {B : Nat → Int32} : fpos (pTell cs w B n i) := by
  unfold pTell; repeat (first | exact fp_r | exact fp_l (by decide) (by decide) | refine fp_if ?_ ?_ | refine fp_rb ?_ (fun _ => ?_))
theorem fp_T {T : NT} {so n i : Nat} {E : Nat → Nat → Int32} {B : Nat → Int32} : fpos (tTell T so E B n i) := by
  unfold tTell; repeat (first | exact fp_r | exact fp_l (by decide) (by decide) | exact fp_L | refine fp_if ?_ ?_ | refine fp_rb ?_ (fun _ => ?_))
theorem fp_C {E : Nat → Nat → Int32} {B : Nat → Int32} {n i : Nat} : fpos (pCell E B n i) := by
  unfold pCell; repeat (first | exact fp_r | exact fp_l (by decide) (by decide) | exact fp_W | exact fp_H | exact fp_S | refine fp_if ?_ ?_ | refine fp_rb ?_ (fun _ => ?_))
theorem fpl_landL {T : NT} {E : Nat → Nat → Int32} {B : Nat → Int32} {n i : Nat} : fpos (landL T E B n i) := by
  unfold landL; repeat (first | exact fp_r | exact fp_l (by decide) (by decide) | exact fp_W | exact fp_S | exact fp_P | exact fp_H | exact fp_G | exact fp_U | exact fp_A | exact fp_L | exact fp_T | exact fp_C | refine fp_if ?_ ?_ | refine fp_rb ?_ (fun _ => ?_))
theorem fpl_rowL {T : NT} {E : Nat → Nat → Int32} {B : Nat → Int32} {n i : Nat} : fpos (rowL T E B n i) := by
  unfold rowL; repeat (first | exact fp_r | exact fp_l (by decide) (by decide) | exact fp_W | exact fp_S | exact fp_P | exact fp_H | exact fp_G | exact fp_U | exact fp_A | exact fp_L | exact fp_T | exact fp_C | refine fp_if ?_ ?_ | refine fp_rb ?_ (fun _ => ?_))
theorem fpl_luckL {T : NT} {E : Nat → Nat → Int32} {B : Nat → Int32} {n i : Nat} : fpos (luckL T E B n i) := by
  unfold luckL; repeat (first | exact fp_r | exact fp_l (by decide) (by decide) | exact fp_W | exact fp_S | exact fp_P | exact fp_H | exact fp_G | exact fp_U | exact fp_A | exact fp_L | exact fp_T | exact fp_C | refine fp_if ?_ ?_ | refine fp_rb ?_ (fun _ => ?_))
theorem fpl_godL {T : NT} {E : Nat → Nat → Int32} {B : Nat → Int32} {n i : Nat} : fpos (godL T E B n i) := by
  unfold godL; repeat (first | exact fp_r | exact fp_l (by decide) (by decide) | exact fp_W | exact fp_S | exact fp_P | exact fp_H | exact fp_G | exact fp_U | exact fp_A | exact fp_L | exact fp_T | exact fp_C | refine fp_if ?_ ?_ | refine fp_rb ?_ (fun _ => ?_))
theorem fpl_holdsL {T : NT} {E : Nat → Nat → Int32} {B : Nat → Int32} {n i : Nat} : fpos (holdsL T E B n i) := by
  unfold holdsL; repeat (first | exact fp_r | exact fp_l (by decide) (by decide) | exact fp_W | exact fp_S | exact fp_P | exact fp_H | exact fp_G | exact fp_U | exact fp_A | exact fp_L | exact fp_T | exact fp_C | refine fp_if ?_ ?_ | refine fp_rb ?_ (fun _ => ?_))
theorem fpl_sendsL {T : NT} {E : Nat → Nat → Int32} {B : Nat → Int32} {n i : Nat} : fpos (sendsL T E B n i) := by
  unfold sendsL; repeat (first | exact fp_r | exact fp_l (by decide) (by decide) | exact fp_W | exact fp_S | exact fp_P | exact fp_H | exact fp_G | exact fp_U | exact fp_A | exact fp_L | exact fp_T | exact fp_C | refine fp_if ?_ ?_ | refine fp_rb ?_ (fun _ => ?_))
theorem fpl_barsL {T : NT} {E : Nat → Nat → Int32} {B : Nat → Int32} {n i : Nat} : fpos (barsL T E B n i) := by
  unfold barsL; repeat (first | exact fp_r | exact fp_l (by decide) (by decide) | exact fp_W | exact fp_S | exact fp_P | exact fp_H | exact fp_G | exact fp_U | exact fp_A | exact fp_L | exact fp_T | exact fp_C | refine fp_if ?_ ?_ | refine fp_rb ?_ (fun _ => ?_))
theorem fpl_prayerL {T : NT} {E : Nat → Nat → Int32} {B : Nat → Int32} {n i : Nat} : fpos (prayerL T E B n i) := by
  unfold prayerL; repeat (first | exact fp_r | exact fp_l (by decide) (by decide) | exact fp_W | exact fp_S | exact fp_P | exact fp_H | exact fp_G | exact fp_U | exact fp_A | exact fp_L | exact fp_T | exact fp_C | refine fp_if ?_ ?_ | refine fp_rb ?_ (fun _ => ?_))
theorem fpl_clashL {T : NT} {E : Nat → Nat → Int32} {B : Nat → Int32} {n i : Nat} : fpos (clashL T E B n i) := by
  unfold clashL; repeat (first | exact fp_r | exact fp_l (by decide) (by decide) | exact fp_W | exact fp_S | exact fp_P | exact fp_H | exact fp_G | exact fp_U | exact fp_A | exact fp_L | exact fp_T | exact fp_C | refine fp_if ?_ ?_ | refine fp_rb ?_ (fun _ => ?_))
theorem fpl_villL {T : NT} {E : Nat → Nat → Int32} {B : Nat → Int32} {n i : Nat} : fpos (villL T E B n i) := by
  unfold villL; repeat (first | exact fp_r | exact fp_l (by decide) (by decide) | exact fp_W | exact fp_S | exact fp_P | exact fp_H | exact fp_G | exact fp_U | exact fp_A | exact fp_L | exact fp_T | exact fp_C | refine fp_if ?_ ?_ | refine fp_rb ?_ (fun _ => ?_))
theorem fpl_spellL {T : NT} {E : Nat → Nat → Int32} {B : Nat → Int32} {n i : Nat} : fpos (spellL T E B n i) := by
  unfold spellL; repeat (first | exact fp_r | exact fp_l (by decide) (by decide) | exact fp_W | exact fp_S | exact fp_P | exact fp_H | exact fp_G | exact fp_U | exact fp_A | exact fp_L | exact fp_T | exact fp_C | refine fp_if ?_ ?_ | refine fp_rb ?_ (fun _ => ?_))
theorem fpl_sawL {T : NT} {E : Nat → Nat → Int32} {B : Nat → Int32} {n i : Nat} : fpos (sawL T E B n i) := by
  unfold sawL; repeat (first | exact fp_r | exact fp_l (by decide) (by decide) | exact fp_W | exact fp_S | exact fp_P | exact fp_H | exact fp_G | exact fp_U | exact fp_A | exact fp_L | exact fp_T | exact fp_C | refine fp_if ?_ ?_ | refine fp_rb ?_ (fun _ => ?_))
theorem fp_N {T : NT} {E : Nat → Nat → Int32} {B : Nat → Int32} {n i s : Nat} : fpos (lnF s T E B n i) := by
  unfold lnF
  repeat (first | exact fpl_landL | exact fpl_rowL | exact fpl_luckL | exact fpl_godL | exact fpl_holdsL | exact fpl_sendsL | exact fpl_barsL | exact fpl_prayerL | exact fpl_clashL | exact fpl_villL | exact fpl_spellL | exact fpl_sawL | exact fp_rb fp_T (fun _ => fp_r) | refine fp_if ?_ ?_)
theorem fp_O {E : Nat → Nat → Int32} {B : Nat → Int32} {n i : Nat} : fpos (opF E B n i) := by
  unfold opF; repeat (first | exact fp_r | exact fp_l (by decide) (by decide) | refine fp_if ?_ ?_ | refine fp_rb ?_ (fun _ => ?_))
theorem fp_R {B : Nat → Int32} {n : Nat} : ∀ (r : Nat) {T : NT} {E : Nat → Nat → Int32} {i : Nat}, fpos (rdF B n r T E i)
  | 0, _, _, _ => fp_l (by decide) (by decide)
  | r + 1, T, E, i => by
    show fpos (rb (opF E B n i) _)
    refine fp_rb fp_O (fun s => fp_rb fp_N (fun t => fp_if (fp_if (fp_l (by decide) (by decide)) fp_r) (fp_rb fp_S (fun j => fp_R r))))
def cpF (f g : Nat → Int32) (o n : Nat) : Nat → Int32 := fun x => if o ≤ x ∧ x < o + n then g (x - o) else f x
theorem cpF_s {f g : Nat → Int32} {o n : Nat} : upd (cpF f g o n) (o + n) (g n) = cpF f g o (n + 1) := by
  funext x
  by_cases e : x = o + n
  · rw [e, upd_e]
    unfold cpF
    rw [if_pos (by omega), show o + n - o = n by omega]
  · rw [upd_o e]
    unfold cpF
    by_cases h : o ≤ x ∧ x < o + n
    · rw [if_pos h, if_pos (by omega)]
    · rw [if_neg h, if_neg (by omega)]
theorem cpF_0 {f g : Nat → Int32} {o : Nat} : cpF f g o 0 = f := by
  funext x
  exact if_neg (by omega)
theorem cpF_i {f g : Nat → Int32} {o n x : Nat} (h : x < n) : cpF f g o n (o + x) = g x := by
  unfold cpF
  rw [if_pos (by omega), show o + x - o = x by omega]
theorem cpF_o {f g : Nat → Int32} {o n x : Nat} (h : x < o ∨ o + n ≤ x) : cpF f g o n x = f x := if_neg (by omega)
theorem lland_d {sc : Nat × (Nat → Int32)} {d : Nat} {m : Mm} {Q : Option Value → Mm → Prop} {z : Nat} {x : Int32} (hd : 1 ≤ d) (hW : Wd m.2.2) (hN : NW m.2.2 z) (h158 : 158 ≤ z) (hq3 : va_rf (mR m 142 3) = .ref z) (hQ : Q (some (.int (mI m z 6))) (uI (uI (uI (uI (rI m 145 (cpF (cpF (cpF (fiF (mI m 145) (nI 0) 48) (mI m (z + 3)) 1 6) (mI m (z + 8)) 7 36) (mI m (z + 19)) 43 4)) 142 21 (nI 0)) 142 22 (nI 0)) 142 1 (nI 0)) 142 2 (-nI 1)))  : ∀ (j i : Nat), i ≤ 4 → 4 + 1 ≤ i + j → Jj sc d 29 533 (mth 244) (pg P244 103).1 [some (.ref 142), some (.int x), some (.int (nI i))] [] (rI m 145 (cpF (cpF (cpF (fiF (mI m 145) (nI 0) 48) (mI m (z + 3)) 1 6) (mI m (z + 8)) 7 36) (mI m (z + 19)) 43 i)) 29 533 Q := by
  intro j
  induction j with
  | zero => intro i h1 h2; omega
  | succ j ih =>
    intro i h1 h2
    refine J_w z244 (i := 103) (by decide) 282 ?_
    refine And.intro (fun cz105 => ?_) (fun cz105 => ?_)
    · -- 105 taken: nI 4 ≤ nI i
      have kz105 : 4 ≤ i := kle (a := 4) (b := i) rfl rfl (by omega) (by omega) cz105
      refine And.intro (Wdo_142 hW) ?_
      refine And.intro (Wdo_142 hW) ?_
      refine And.intro (Wdo_142 hW) (Exists.intro _ (And.intro hq3 ?_))
      refine And.intro (NWo_0 hN) ?_
      rw [uI_ne (a := 142) (b := z) (by omega), uI_ne (a := 142) (b := z) (by omega), rI_ne (a := 145) (b := z) (by omega)]
      refine And.intro ⟨by omega, Nat.le_of_ble_eq_true rfl, Nat.le_refl _, Nat.le_refl _⟩ (And.intro (Wdo_142 hW) ?_)
      refine C202 (m := (uI (uI (rI m 145 (cpF (cpF (cpF (fiF (mI m 145) (nI 0) 48) (mI m (z + 3)) 1 6) (mI m (z + 8)) 7 36) (mI m (z + 19)) 43 i)) 142 21 (nI 0)) 142 22 (nI 0))) hW ?_
      refine And.intro ⟨rfl, trivial, Nat.le_refl _, Nat.le_refl _⟩ ?_
      rw [show i = 4 by omega]
      exact hQ
    · -- 105 not: ¬ nI 4 ≤ nI i
      have kz105 : i < 4 := knle (a := 4) (b := i) rfl rfl (by omega) (by omega) cz105
      refine And.intro (Wdo_142 hW) (Exists.intro _ (And.intro (Wdr_142_18 hW) ?_))
      refine And.intro (Wdo_142 hW) (Exists.intro _ (And.intro hq3 ?_))
      refine And.intro (NWo_0 hN) (Exists.intro _ (And.intro (NWr_0_35 hN) ?_))
      refine And.intro (NWi_19 hN (vi rfl (by omega))) ?_
      rw [nI_clamp (show i < 2 ^ 31 by omega)]
      rw [(congrFun (rI_ne (m := m) (a := 145) (b := z + 19) (by omega)) i)]
      have ez116 : nI 43 + nI i = nI (43 + i) := by simp only [nI_add, pk_mul]
      refine And.intro (Wdi_145 hW (vi ez116 (by omega))) ?_
      rw [vc ez116 (by omega)]
      rw [uI_rI, cpF_s]
      show Jj sc d 29 533 (mth 244) (pg P244 103).1 [some (.ref 142), some (.int x), some (.int (nI i + nI 1))] [] (rI m 145 (cpF (cpF (cpF (fiF (mI m 145) (nI 0) 48) (mI m (z + 3)) 1 6) (mI m (z + 8)) 7 36) (mI m (z + 19)) 43 (i + 1))) 29 533 Q
      rw [show nI i + nI 1 = nI (i + 1) from by simp only [nI_add, pk_mul]]
      exact ih (i + 1) (by omega) (by omega)
theorem lland_c {sc : Nat × (Nat → Int32)} {d : Nat} {m : Mm} {Q : Option Value → Mm → Prop} {z : Nat} {x : Int32} (hd : 1 ≤ d) (hW : Wd m.2.2) (hN : NW m.2.2 z) (h158 : 158 ≤ z) (hq3 : va_rf (mR m 142 3) = .ref z) (hQ : Q (some (.int (mI m z 6))) (uI (uI (uI (uI (rI m 145 (cpF (cpF (cpF (fiF (mI m 145) (nI 0) 48) (mI m (z + 3)) 1 6) (mI m (z + 8)) 7 36) (mI m (z + 19)) 43 4)) 142 21 (nI 0)) 142 22 (nI 0)) 142 1 (nI 0)) 142 2 (-nI 1)))  : ∀ (j i : Nat), i ≤ 36 → 36 + 1 ≤ i + j → Jj sc d 29 533 (mth 244) (pg P244 85).1 [some (.ref 142), some (.int x), some (.int (nI i))] [] (rI m 145 (cpF (cpF (fiF (mI m 145) (nI 0) 48) (mI m (z + 3)) 1 6) (mI m (z + 8)) 7 i)) 29 533 Q := by
  intro j
  induction j with
  | zero => intro i h1 h2; omega
  | succ j ih =>
    intro i h1 h2
    refine J_w z244 (i := 85) (by decide) 282 ?_
    refine And.intro (fun cz87 => ?_) (fun cz87 => ?_)
    · -- 87 taken: nI 36 ≤ nI i
      have kz87 : 36 ≤ i := kle (a := 36) (b := i) rfl rfl (by omega) (by omega) cz87
      show Jj sc d 29 533 (mth 244) (pg P244 103).1 [some (.ref 142), some (.int x), some (.int (nI 0))] [] (rI m 145 (cpF (cpF (fiF (mI m 145) (nI 0) 48) (mI m (z + 3)) 1 6) (mI m (z + 8)) 7 i)) 29 533 Q
      rw [show i = 36 by omega]
      have w9 := lland_d (sc := sc) (x := x) hd hW hN h158 hq3 hQ 5 0 (by decide) (by decide)
      rw [cpF_0] at w9
      exact w9
    · -- 87 not: ¬ nI 36 ≤ nI i
      have kz87 : i < 36 := knle (a := 36) (b := i) rfl rfl (by omega) (by omega) cz87
      refine And.intro (Wdo_142 hW) (Exists.intro _ (And.intro (Wdr_142_18 hW) ?_))
      refine And.intro (Wdo_142 hW) (Exists.intro _ (And.intro hq3 ?_))
      refine And.intro (NWo_0 hN) (Exists.intro _ (And.intro (NWr_0_24 hN) ?_))
      refine And.intro (NWi_8 hN (vi rfl (by omega))) ?_
      rw [nI_clamp (show i < 2 ^ 31 by omega)]
      rw [(congrFun (rI_ne (m := m) (a := 145) (b := z + 8) (by omega)) i)]
      have ez98 : nI 7 + nI i = nI (7 + i) := by simp only [nI_add, pk_mul]
      refine And.intro (Wdi_145 hW (vi ez98 (by omega))) ?_
      rw [vc ez98 (by omega)]
      rw [uI_rI, cpF_s]
      show Jj sc d 29 533 (mth 244) (pg P244 85).1 [some (.ref 142), some (.int x), some (.int (nI i + nI 1))] [] (rI m 145 (cpF (cpF (fiF (mI m 145) (nI 0) 48) (mI m (z + 3)) 1 6) (mI m (z + 8)) 7 (i + 1))) 29 533 Q
      rw [show nI i + nI 1 = nI (i + 1) from by simp only [nI_add, pk_mul]]
      exact ih (i + 1) (by omega) (by omega)
theorem lland_b {sc : Nat × (Nat → Int32)} {d : Nat} {m : Mm} {Q : Option Value → Mm → Prop} {z : Nat} {x : Int32} (hd : 1 ≤ d) (hW : Wd m.2.2) (hN : NW m.2.2 z) (h158 : 158 ≤ z) (hq3 : va_rf (mR m 142 3) = .ref z) (hQ : Q (some (.int (mI m z 6))) (uI (uI (uI (uI (rI m 145 (cpF (cpF (cpF (fiF (mI m 145) (nI 0) 48) (mI m (z + 3)) 1 6) (mI m (z + 8)) 7 36) (mI m (z + 19)) 43 4)) 142 21 (nI 0)) 142 22 (nI 0)) 142 1 (nI 0)) 142 2 (-nI 1)))  : ∀ (j i : Nat), i ≤ 6 → 6 + 1 ≤ i + j → Jj sc d 29 533 (mth 244) (pg P244 67).1 [some (.ref 142), some (.int x), some (.int (nI i))] [] (rI m 145 (cpF (fiF (mI m 145) (nI 0) 48) (mI m (z + 3)) 1 i)) 29 533 Q := by
  intro j
  induction j with
  | zero => intro i h1 h2; omega
  | succ j ih =>
    intro i h1 h2
    refine J_w z244 (i := 67) (by decide) 282 ?_
    refine And.intro (fun cz69 => ?_) (fun cz69 => ?_)
    · -- 69 taken: nI 6 ≤ nI i
      have kz69 : 6 ≤ i := kle (a := 6) (b := i) rfl rfl (by omega) (by omega) cz69
      show Jj sc d 29 533 (mth 244) (pg P244 85).1 [some (.ref 142), some (.int x), some (.int (nI 0))] [] (rI m 145 (cpF (fiF (mI m 145) (nI 0) 48) (mI m (z + 3)) 1 i)) 29 533 Q
      rw [show i = 6 by omega]
      have w9 := lland_c (sc := sc) (x := x) hd hW hN h158 hq3 hQ 37 0 (by decide) (by decide)
      rw [cpF_0] at w9
      exact w9
    · -- 69 not: ¬ nI 6 ≤ nI i
      have kz69 : i < 6 := knle (a := 6) (b := i) rfl rfl (by omega) (by omega) cz69
      refine And.intro (Wdo_142 hW) (Exists.intro _ (And.intro (Wdr_142_18 hW) ?_))
      refine And.intro (Wdo_142 hW) (Exists.intro _ (And.intro hq3 ?_))
      refine And.intro (NWo_0 hN) (Exists.intro _ (And.intro (NWr_0_19 hN) ?_))
      refine And.intro (NWi_3 hN (vi rfl (by omega))) ?_
      rw [nI_clamp (show i < 2 ^ 31 by omega)]
      rw [(congrFun (rI_ne (m := m) (a := 145) (b := z + 3) (by omega)) i)]
      have ez80 : nI 1 + nI i = nI (1 + i) := by simp only [nI_add, pk_mul]
      refine And.intro (Wdi_145 hW (vi ez80 (by omega))) ?_
      rw [vc ez80 (by omega)]
      rw [uI_rI, cpF_s]
      show Jj sc d 29 533 (mth 244) (pg P244 67).1 [some (.ref 142), some (.int x), some (.int (nI i + nI 1))] [] (rI m 145 (cpF (fiF (mI m 145) (nI 0) 48) (mI m (z + 3)) 1 (i + 1))) 29 533 Q
      rw [show nI i + nI 1 = nI (i + 1) from by simp only [nI_add, pk_mul]]
      exact ih (i + 1) (by omega) (by omega)
theorem lland_a {sc : Nat × (Nat → Int32)} {d : Nat} {m : Mm} {Q : Option Value → Mm → Prop} {z : Nat} {x : Int32} (hd : 1 ≤ d) (hW : Wd m.2.2) (hN : NW m.2.2 z) (h158 : 158 ≤ z) (hq3 : va_rf (mR m 142 3) = .ref z) (hQ : Q (some (.int (mI m z 6))) (uI (uI (uI (uI (rI m 145 (cpF (cpF (cpF (fiF (mI m 145) (nI 0) 48) (mI m (z + 3)) 1 6) (mI m (z + 8)) 7 36) (mI m (z + 19)) 43 4)) 142 21 (nI 0)) 142 22 (nI 0)) 142 1 (nI 0)) 142 2 (-nI 1)))  : ∀ (j i : Nat), i ≤ 48 → 48 + 1 ≤ i + j → Jj sc d 29 533 (mth 244) (pg P244 55).1 [some (.ref 142), some (.int x), some (.int (nI i))] [] (rI m 145 (fiF (mI m 145) (nI 0) i)) 29 533 Q := by
  intro j
  induction j with
  | zero => intro i h1 h2; omega
  | succ j ih =>
    intro i h1 h2
    refine J_w z244 (i := 55) (by decide) 282 ?_
    refine And.intro (fun cz57 => ?_) (fun cz57 => ?_)
    · -- 57 taken: nI 48 ≤ nI i
      have kz57 : 48 ≤ i := kle (a := 48) (b := i) rfl rfl (by omega) (by omega) cz57
      show Jj sc d 29 533 (mth 244) (pg P244 67).1 [some (.ref 142), some (.int x), some (.int (nI 0))] [] (rI m 145 (fiF (mI m 145) (nI 0) i)) 29 533 Q
      rw [show i = 48 by omega]
      have w9 := lland_b (sc := sc) (x := x) hd hW hN h158 hq3 hQ 7 0 (by decide) (by decide)
      rw [cpF_0] at w9
      exact w9
    · -- 57 not: ¬ nI 48 ≤ nI i
      have kz57 : i < 48 := knle (a := 48) (b := i) rfl rfl (by omega) (by omega) cz57
      refine And.intro (Wdo_142 hW) (Exists.intro _ (And.intro (Wdr_142_18 hW) ?_))
      refine And.intro (Wdi_145 hW (vi rfl (by omega))) ?_
      rw [nI_clamp (show i < 2 ^ 31 by omega)]
      rw [uI_rI, fiF_s]
      show Jj sc d 29 533 (mth 244) (pg P244 55).1 [some (.ref 142), some (.int x), some (.int (nI i + nI 1))] [] (rI m 145 (fiF (mI m 145) (nI 0) (i + 1))) 29 533 Q
      rw [show nI i + nI 1 = nI (i + 1) from by simp only [nI_add, pk_mul]]
      exact ih (i + 1) (by omega) (by omega)
