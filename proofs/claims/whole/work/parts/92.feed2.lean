def vv5 (va vb vc9 vd ve : Int32) : Nat → Int32 := fun i => if i = 0 then va else if i = 1 then vb else if i = 2 then vc9 else if i = 3 then vd else ve
/-- the bytes of five ints -/
def fdB (vv : Nat → Int32) (j : Nat) : Int32 := byF (vv (j / 4)) (j % 4)
def fdM (m : Mm) (t : Nat) (vv : Nat → Int32) (i : Nat) : Mm := uI (rI m 143 (cpF (mI m 143) (fdB vv) t i)) 142 6 (nI (t + i))
theorem fdM_0 {m : Mm} {t : Nat} {vv : Nat → Int32} (h : mI m 142 6 = nI t) : fdM m t vv 0 = m := by
  unfold fdM
  rw [cpF_0, rI_self, Nat.add_zero, uI_self h]
theorem fdM_s {m : Mm} {t i : Nat} {vv : Nat → Int32} : uI (uI (fdM m t vv i) 143 (t + i) (fdB vv i)) 142 6 (nI (t + i) + nI 1) = fdM m t vv (i + 1) := by
  unfold fdM
  rw [uI_cc (by decide), uI_rI, cpF_s, nI_add, Nat.add_assoc]
theorem by_bt {v : Int32} {j : Nat} : bt (byF v j) := by
  unfold byF
  generalize (v >>> (nI (24 - 8 * j) &&& 31)).toInt8.toInt32 = x
  have e : vp_nar .byte x = x.toInt8.toInt32 := rfl
  rw [e]
  generalize x.toInt8 = b
  have h1 : -128 ≤ b.toInt := Int8.le_toInt b
  have h2 : b.toInt < 128 := Int8.toInt_lt b
  have h3 : b.toInt32.toInt = b.toInt := Int8.toInt_toInt32 b
  rcases (show b.toInt < 0 ∨ 0 ≤ b.toInt by omega) with z | z
  · refine ⟨(-b.toInt - 1).toNat, by omega, Or.inr ?_⟩
    apply Int32.toInt_inj.mp
    rw [h3, Int32.toInt_neg, nI_toInt (by omega), Int.bmod_def]
    split <;> omega
  · refine ⟨b.toInt.toNat, by omega, Or.inl ?_⟩
    apply Int32.toInt_inj.mp
    rw [h3, nI_toInt (by omega)]
    omega
theorem lfed {sc : Nat × (Nat → Int32)} {d : Nat} {m : Mm} {Q : Option Value → Mm → Prop} {t : Nat} {va vb vc9 vd ve : Int32} (hW : Wd m.2.2) (ht : t + 20 ≤ 1200) (hQ : Q (some (.int (nI (t + 20)))) (fdM m t (vv5 va vb vc9 vd ve) 20))  : ∀ (j i : Nat), i ≤ 20 → 20 + 1 ≤ i + j → Jj sc d 0 0 (mth 243) (pg P243 13).1 [some (.ref 142), some (.int va), some (.int vb), some (.int vc9), some (.int vd), some (.int ve), some (.int (nI i)), none] [] (fdM m t (vv5 va vb vc9 vd ve) i) 0 0 Q := by
  intro j
  induction j with
  | zero => intro i h1 h2; omega
  | succ j ih =>
    intro i h1 h2
    refine J_w z243 (i := 13) (by decide) 148 ?_
    refine And.intro (fun cz15 => ?_) (fun cz15 => ?_)
    · -- 15 taken: nI 20 ≤ nI i
      have kz15 : 20 ≤ i := kle (a := 20) (b := i) rfl rfl (by omega) (by omega) cz15
      refine And.intro (Wdo_142 hW) ?_
      rw [(show mI (fdM m t (vv5 va vb vc9 vd ve) i) 142 6 = nI (t + i) from by unfold fdM; rw [uI_eq, upd_e])]
      refine And.intro ⟨rfl, trivial, Nat.le_refl _, Nat.le_refl _⟩ ?_
      rw [show i = 20 by omega]
      exact hQ
    · -- 15 not: ¬ nI 20 ≤ nI i
      have kz15 : i < 20 := knle (a := 20) (b := i) rfl rfl (by omega) (by omega) cz15
      refine And.intro (fun cz18 => ?_) (fun cz18 => ?_)
      · -- 18 taken: nI 4 ≤ nI i
        have kz18 : 4 ≤ i := kle (a := 4) (b := i) rfl rfl (by omega) (by omega) cz18
        refine And.intro (fun cz23 => ?_) (fun cz23 => ?_)
        · -- 23 taken: nI 8 ≤ nI i
          have kz23 : 8 ≤ i := kle (a := 8) (b := i) rfl rfl (by omega) (by omega) cz23
          refine And.intro (fun cz28 => ?_) (fun cz28 => ?_)
          · -- 28 taken: nI 12 ≤ nI i
            have kz28 : 12 ≤ i := kle (a := 12) (b := i) rfl rfl (by omega) (by omega) cz28
            refine And.intro (fun cz33 => ?_) (fun cz33 => ?_)
            · -- 33 taken: nI 16 ≤ nI i
              have kz33 : 16 ≤ i := kle (a := 16) (b := i) rfl rfl (by omega) (by omega) cz33
              refine And.intro (Wdo_142 hW) (Exists.intro _ (And.intro (Wdr_142_5 hW) ?_))
              refine And.intro (Wdo_142 hW) ?_
              rw [(show mI (fdM m t (vv5 va vb vc9 vd ve) i) 142 6 = nI (t + i) from by unfold fdM; rw [uI_eq, upd_e])]
              refine And.intro (by decide) ?_
              rw [pk_rem (by omega) (by decide) (by decide)]
              refine And.intro (Wdi_143 hW (vi rfl (by omega))) ?_
              rw [nI_clamp (show (t + i) < 2 ^ 31 by omega)]
              rw [show vp_nar .byte ((ve >>> ((nI 24 - (nI 8 * (nI ((i % 4))))) &&& 31)).toInt8.toInt32) = fdB (vv5 va vb vc9 vd ve) i from by rw [pk_mul, pk_sub (by omega)]; unfold fdB byF; rw [show i / 4 = 4 by omega]; rfl]
              refine And.intro rfl ?_
              refine And.intro (Wdo_142 hW) ?_
              rw [uI_ne (m := (fdM m t (vv5 va vb vc9 vd ve) i)) (a := 143) (b := 142) (by omega)]
              rw [(show mI (fdM m t (vv5 va vb vc9 vd ve) i) 142 6 = nI (t + i) from by unfold fdM; rw [uI_eq, upd_e])]
              refine And.intro (Wdo_142 hW) ?_
              rw [show (uI (uI (fdM m t (vv5 va vb vc9 vd ve) i) 143 ((t + i)) (fdB (vv5 va vb vc9 vd ve) i)) 142 6 ((nI ((t + i))) + nI 1)) = fdM m t (vv5 va vb vc9 vd ve) (i + 1) from fdM_s]
              show Jj sc d 0 0 (mth 243) (pg P243 13).1 [some (.ref 142), some (.int va), some (.int vb), some (.int vc9), some (.int vd), some (.int ve), some (.int (nI i + nI 1)), some (.int ve)] [] (fdM m t (vv5 va vb vc9 vd ve) (i + 1)) 0 0 Q
              rw [show nI i + nI 1 = nI (i + 1) from by simp only [nI_add, pk_mul]]
              refine J_wk (L' := [some (.ref 142), some (.int va), some (.int vb), some (.int vc9), some (.int vd), some (.int ve), some (.int (nI (i + 1))), none]) ⟨rfl, rfl, rfl, rfl, rfl, rfl, rfl, trivial⟩ ?_
              exact ih (i + 1) (by omega) (by omega)
            · -- 33 not: ¬ nI 16 ≤ nI i
              have kz33 : i < 16 := knle (a := 16) (b := i) rfl rfl (by omega) (by omega) cz33
              refine And.intro (Wdo_142 hW) (Exists.intro _ (And.intro (Wdr_142_5 hW) ?_))
              refine And.intro (Wdo_142 hW) ?_
              rw [(show mI (fdM m t (vv5 va vb vc9 vd ve) i) 142 6 = nI (t + i) from by unfold fdM; rw [uI_eq, upd_e])]
              refine And.intro (by decide) ?_
              rw [pk_rem (by omega) (by decide) (by decide)]
              refine And.intro (Wdi_143 hW (vi rfl (by omega))) ?_
              rw [nI_clamp (show (t + i) < 2 ^ 31 by omega)]
              rw [show vp_nar .byte ((vd >>> ((nI 24 - (nI 8 * (nI ((i % 4))))) &&& 31)).toInt8.toInt32) = fdB (vv5 va vb vc9 vd ve) i from by rw [pk_mul, pk_sub (by omega)]; unfold fdB byF; rw [show i / 4 = 3 by omega]; rfl]
              refine And.intro rfl ?_
              refine And.intro (Wdo_142 hW) ?_
              rw [uI_ne (m := (fdM m t (vv5 va vb vc9 vd ve) i)) (a := 143) (b := 142) (by omega)]
              rw [(show mI (fdM m t (vv5 va vb vc9 vd ve) i) 142 6 = nI (t + i) from by unfold fdM; rw [uI_eq, upd_e])]
              refine And.intro (Wdo_142 hW) ?_
              rw [show (uI (uI (fdM m t (vv5 va vb vc9 vd ve) i) 143 ((t + i)) (fdB (vv5 va vb vc9 vd ve) i)) 142 6 ((nI ((t + i))) + nI 1)) = fdM m t (vv5 va vb vc9 vd ve) (i + 1) from fdM_s]
              show Jj sc d 0 0 (mth 243) (pg P243 13).1 [some (.ref 142), some (.int va), some (.int vb), some (.int vc9), some (.int vd), some (.int ve), some (.int (nI i + nI 1)), some (.int vd)] [] (fdM m t (vv5 va vb vc9 vd ve) (i + 1)) 0 0 Q
              rw [show nI i + nI 1 = nI (i + 1) from by simp only [nI_add, pk_mul]]
              refine J_wk (L' := [some (.ref 142), some (.int va), some (.int vb), some (.int vc9), some (.int vd), some (.int ve), some (.int (nI (i + 1))), none]) ⟨rfl, rfl, rfl, rfl, rfl, rfl, rfl, trivial⟩ ?_
              exact ih (i + 1) (by omega) (by omega)
          · -- 28 not: ¬ nI 12 ≤ nI i
            have kz28 : i < 12 := knle (a := 12) (b := i) rfl rfl (by omega) (by omega) cz28
            refine And.intro (Wdo_142 hW) (Exists.intro _ (And.intro (Wdr_142_5 hW) ?_))
            refine And.intro (Wdo_142 hW) ?_
            rw [(show mI (fdM m t (vv5 va vb vc9 vd ve) i) 142 6 = nI (t + i) from by unfold fdM; rw [uI_eq, upd_e])]
            refine And.intro (by decide) ?_
            rw [pk_rem (by omega) (by decide) (by decide)]
            refine And.intro (Wdi_143 hW (vi rfl (by omega))) ?_
            rw [nI_clamp (show (t + i) < 2 ^ 31 by omega)]
            rw [show vp_nar .byte ((vc9 >>> ((nI 24 - (nI 8 * (nI ((i % 4))))) &&& 31)).toInt8.toInt32) = fdB (vv5 va vb vc9 vd ve) i from by rw [pk_mul, pk_sub (by omega)]; unfold fdB byF; rw [show i / 4 = 2 by omega]; rfl]
            refine And.intro rfl ?_
            refine And.intro (Wdo_142 hW) ?_
            rw [uI_ne (m := (fdM m t (vv5 va vb vc9 vd ve) i)) (a := 143) (b := 142) (by omega)]
            rw [(show mI (fdM m t (vv5 va vb vc9 vd ve) i) 142 6 = nI (t + i) from by unfold fdM; rw [uI_eq, upd_e])]
            refine And.intro (Wdo_142 hW) ?_
            rw [show (uI (uI (fdM m t (vv5 va vb vc9 vd ve) i) 143 ((t + i)) (fdB (vv5 va vb vc9 vd ve) i)) 142 6 ((nI ((t + i))) + nI 1)) = fdM m t (vv5 va vb vc9 vd ve) (i + 1) from fdM_s]
            show Jj sc d 0 0 (mth 243) (pg P243 13).1 [some (.ref 142), some (.int va), some (.int vb), some (.int vc9), some (.int vd), some (.int ve), some (.int (nI i + nI 1)), some (.int vc9)] [] (fdM m t (vv5 va vb vc9 vd ve) (i + 1)) 0 0 Q
            rw [show nI i + nI 1 = nI (i + 1) from by simp only [nI_add, pk_mul]]
            refine J_wk (L' := [some (.ref 142), some (.int va), some (.int vb), some (.int vc9), some (.int vd), some (.int ve), some (.int (nI (i + 1))), none]) ⟨rfl, rfl, rfl, rfl, rfl, rfl, rfl, trivial⟩ ?_
            exact ih (i + 1) (by omega) (by omega)
        · -- 23 not: ¬ nI 8 ≤ nI i
          have kz23 : i < 8 := knle (a := 8) (b := i) rfl rfl (by omega) (by omega) cz23
          refine And.intro (Wdo_142 hW) (Exists.intro _ (And.intro (Wdr_142_5 hW) ?_))
          refine And.intro (Wdo_142 hW) ?_
          rw [(show mI (fdM m t (vv5 va vb vc9 vd ve) i) 142 6 = nI (t + i) from by unfold fdM; rw [uI_eq, upd_e])]
          refine And.intro (by decide) ?_
          rw [pk_rem (by omega) (by decide) (by decide)]
          refine And.intro (Wdi_143 hW (vi rfl (by omega))) ?_
          rw [nI_clamp (show (t + i) < 2 ^ 31 by omega)]
          rw [show vp_nar .byte ((vb >>> ((nI 24 - (nI 8 * (nI ((i % 4))))) &&& 31)).toInt8.toInt32) = fdB (vv5 va vb vc9 vd ve) i from by rw [pk_mul, pk_sub (by omega)]; unfold fdB byF; rw [show i / 4 = 1 by omega]; rfl]
          refine And.intro rfl ?_
          refine And.intro (Wdo_142 hW) ?_
          rw [uI_ne (m := (fdM m t (vv5 va vb vc9 vd ve) i)) (a := 143) (b := 142) (by omega)]
          rw [(show mI (fdM m t (vv5 va vb vc9 vd ve) i) 142 6 = nI (t + i) from by unfold fdM; rw [uI_eq, upd_e])]
          refine And.intro (Wdo_142 hW) ?_
          rw [show (uI (uI (fdM m t (vv5 va vb vc9 vd ve) i) 143 ((t + i)) (fdB (vv5 va vb vc9 vd ve) i)) 142 6 ((nI ((t + i))) + nI 1)) = fdM m t (vv5 va vb vc9 vd ve) (i + 1) from fdM_s]
          show Jj sc d 0 0 (mth 243) (pg P243 13).1 [some (.ref 142), some (.int va), some (.int vb), some (.int vc9), some (.int vd), some (.int ve), some (.int (nI i + nI 1)), some (.int vb)] [] (fdM m t (vv5 va vb vc9 vd ve) (i + 1)) 0 0 Q
          rw [show nI i + nI 1 = nI (i + 1) from by simp only [nI_add, pk_mul]]
          refine J_wk (L' := [some (.ref 142), some (.int va), some (.int vb), some (.int vc9), some (.int vd), some (.int ve), some (.int (nI (i + 1))), none]) ⟨rfl, rfl, rfl, rfl, rfl, rfl, rfl, trivial⟩ ?_
          exact ih (i + 1) (by omega) (by omega)
      · -- 18 not: ¬ nI 4 ≤ nI i
        have kz18 : i < 4 := knle (a := 4) (b := i) rfl rfl (by omega) (by omega) cz18
        refine And.intro (Wdo_142 hW) (Exists.intro _ (And.intro (Wdr_142_5 hW) ?_))
        refine And.intro (Wdo_142 hW) ?_
        rw [(show mI (fdM m t (vv5 va vb vc9 vd ve) i) 142 6 = nI (t + i) from by unfold fdM; rw [uI_eq, upd_e])]
        refine And.intro (by decide) ?_
        rw [pk_rem (by omega) (by decide) (by decide)]
        refine And.intro (Wdi_143 hW (vi rfl (by omega))) ?_
        rw [nI_clamp (show (t + i) < 2 ^ 31 by omega)]
        rw [show vp_nar .byte ((va >>> ((nI 24 - (nI 8 * (nI ((i % 4))))) &&& 31)).toInt8.toInt32) = fdB (vv5 va vb vc9 vd ve) i from by rw [pk_mul, pk_sub (by omega)]; unfold fdB byF; rw [show i / 4 = 0 by omega]; rfl]
        refine And.intro rfl ?_
        refine And.intro (Wdo_142 hW) ?_
        rw [uI_ne (m := (fdM m t (vv5 va vb vc9 vd ve) i)) (a := 143) (b := 142) (by omega)]
        rw [(show mI (fdM m t (vv5 va vb vc9 vd ve) i) 142 6 = nI (t + i) from by unfold fdM; rw [uI_eq, upd_e])]
        refine And.intro (Wdo_142 hW) ?_
        rw [show (uI (uI (fdM m t (vv5 va vb vc9 vd ve) i) 143 ((t + i)) (fdB (vv5 va vb vc9 vd ve) i)) 142 6 ((nI ((t + i))) + nI 1)) = fdM m t (vv5 va vb vc9 vd ve) (i + 1) from fdM_s]
        show Jj sc d 0 0 (mth 243) (pg P243 13).1 [some (.ref 142), some (.int va), some (.int vb), some (.int vc9), some (.int vd), some (.int ve), some (.int (nI i + nI 1)), some (.int va)] [] (fdM m t (vv5 va vb vc9 vd ve) (i + 1)) 0 0 Q
        rw [show nI i + nI 1 = nI (i + 1) from by simp only [nI_add, pk_mul]]
        refine J_wk (L' := [some (.ref 142), some (.int va), some (.int vb), some (.int vc9), some (.int vd), some (.int ve), some (.int (nI (i + 1))), none]) ⟨rfl, rfl, rfl, rfl, rfl, rfl, rfl, trivial⟩ ?_
        exact ih (i + 1) (by omega) (by omega)
theorem tpM_22 {m : Mm} {t j : Nat} {v : Int32} : (tpM m t v j).2.2 = m.2.2 := by
  unfold tpM
  rw [uI_22, rI_22]
theorem tpM_o {m : Mm} {t j r : Nat} {v : Int32} (h1 : r ≠ 88) (h2 : r ≠ 89) : mI (tpM m t v j) r = mI m r := by
  unfold tpM
  rw [uI_ne h1, rI_ne h2]
theorem tpM_88 {m : Mm} {t j : Nat} {v : Int32} : mI (tpM m t v j) 88 1 = nI (t + j) := by
  unfold tpM
  rw [uI_eq, upd_e]
theorem tpM_89 {m : Mm} {t j : Nat} {v : Int32} : mI (tpM m t v j) 89 = cpF (mI m 89) (byF v) t j := by
  unfold tpM
  rw [uI_ne (by decide), rI_eq]
def tp5 (m : Mm) (t : Nat) (va vb vc9 vd ve : Int32) : Mm := tpM (tpM (tpM (tpM (tpM m t va 4) (t + 4) vb 4) (t + 4 + 4) vc9 4) (t + 4 + 4 + 4) vd 4) (t + 4 + 4 + 4 + 4) ve 4
theorem tp5_22 {m : Mm} {t : Nat} {va vb vc9 vd ve : Int32} : (tp5 m t va vb vc9 vd ve).2.2 = m.2.2 := by
  unfold tp5
  rw [tpM_22, tpM_22, tpM_22, tpM_22, tpM_22]
theorem tp5_o {m : Mm} {t r : Nat} {va vb vc9 vd ve : Int32} (h1 : r ≠ 88) (h2 : r ≠ 89) : mI (tp5 m t va vb vc9 vd ve) r = mI m r := by
  unfold tp5
  rw [tpM_o h1 h2, tpM_o h1 h2, tpM_o h1 h2, tpM_o h1 h2, tpM_o h1 h2]
theorem tp5_88 {m : Mm} {t : Nat} {va vb vc9 vd ve : Int32} : mI (tp5 m t va vb vc9 vd ve) 88 1 = nI (t + 20) := tpM_88
theorem tp5_l {m : Mm} {t j : Nat} {va vb vc9 vd ve : Int32} (h : j < t) : mI (tp5 m t va vb vc9 vd ve) 89 j = mI m 89 j := by
  unfold tp5
  rw [tpM_89, cpF_o (by omega), tpM_89, cpF_o (by omega), tpM_89, cpF_o (by omega), tpM_89, cpF_o (by omega), tpM_89, cpF_o (by omega)]
theorem tp5_b {m : Mm} {t j : Nat} {va vb vc9 vd ve : Int32} (h : j < 20) : mI (tp5 m t va vb vc9 vd ve) 89 (t + j) = fdB (vv5 va vb vc9 vd ve) j := by
  unfold tp5 fdB vv5
  rw [tpM_89]
  rcases Nat.lt_or_ge j 16 with z | z
  · rw [cpF_o (by omega), tpM_89]
    rcases Nat.lt_or_ge j 12 with z2 | z2
    · rw [cpF_o (by omega), tpM_89]
      rcases Nat.lt_or_ge j 8 with z3 | z3
      · rw [cpF_o (by omega), tpM_89]
        rcases Nat.lt_or_ge j 4 with z4 | z4
        · rw [cpF_o (by omega), tpM_89, cpF_i z4, if_pos (by omega), show j % 4 = j by omega]
        · rw [show t + j = t + 4 + (j - 4) by omega, cpF_i (by omega), if_neg (by omega), if_pos (by omega), show j % 4 = j - 4 by omega]
      · rw [show t + j = t + 4 + 4 + (j - 8) by omega, cpF_i (by omega), if_neg (by omega), if_neg (by omega), if_pos (by omega), show j % 4 = j - 8 by omega]
    · rw [show t + j = t + 4 + 4 + 4 + (j - 12) by omega, cpF_i (by omega), if_neg (by omega), if_neg (by omega), if_neg (by omega), if_pos (by omega), show j % 4 = j - 12 by omega]
  · rw [show t + j = t + 4 + 4 + 4 + 4 + (j - 16) by omega, cpF_i (by omega), if_neg (by omega), if_neg (by omega), if_neg (by omega), if_neg (by omega), show j % 4 = j - 16 by omega]
theorem Rel_fed {z t : Nat} {m : Mm} {va vb vc9 vd ve : Int32} (hR : Rel z m) (ht : t + 20 ≤ 1200) (h1 : mI m 88 1 = nI t) (h2 : mI m 142 6 = nI t) (h3 : ∀ j, j < t → mI m 143 j = mI m 89 j ∧ bt (mI m 89 j)) : Rel z (fdM (uI (tp5 m t va vb vc9 vd ve) 142 0 (nI 0)) t (vv5 va vb vc9 vd ve) 20) := by
  obtain ⟨hW, hz, hS, a, b, hA, hX⟩ := hR
  have ab : a = 1 ∨ a = 93 := hA.1.elim (fun z => Or.inl z.1) (fun z => Or.inr z.1)
  have n22 : (fdM (uI (tp5 m t va vb vc9 vd ve) 142 0 (nI 0)) t (vv5 va vb vc9 vd ve) 20).2.2 = m.2.2 := by
    unfold fdM
    rw [uI_22, rI_22, uI_22, tp5_22]
  have no : ∀ r, r ≠ 88 → r ≠ 89 → r ≠ 142 → r ≠ 143 → mI (fdM (uI (tp5 m t va vb vc9 vd ve) 142 0 (nI 0)) t (vv5 va vb vc9 vd ve) 20) r = mI m r := fun r g1 g2 g3 g4 => by
    unfold fdM
    rw [uI_ne g3, rI_ne g4, uI_ne g3, tp5_o g1 g2]
  have n88 : mI (fdM (uI (tp5 m t va vb vc9 vd ve) 142 0 (nI 0)) t (vv5 va vb vc9 vd ve) 20) 88 1 = nI (t + 20) := by
    unfold fdM
    rw [uI_ne (by decide), rI_ne (by decide), uI_ne (by decide), tp5_88]
  have n89 : mI (fdM (uI (tp5 m t va vb vc9 vd ve) 142 0 (nI 0)) t (vv5 va vb vc9 vd ve) 20) 89 = mI (tp5 m t va vb vc9 vd ve) 89 := by
    unfold fdM
    rw [uI_ne (by decide), rI_ne (by decide), uI_ne (by decide)]
  have n142 : ∀ x, x ≠ 0 → x ≠ 6 → mI (fdM (uI (tp5 m t va vb vc9 vd ve) 142 0 (nI 0)) t (vv5 va vb vc9 vd ve) 20) 142 x = mI m 142 x := fun x g1 g2 => by
    unfold fdM
    rw [uI_eq, upd_o g2, rI_ne (by decide), uI_eq, upd_o g1, tp5_o (by decide) (by decide)]
  have n6 : mI (fdM (uI (tp5 m t va vb vc9 vd ve) 142 0 (nI 0)) t (vv5 va vb vc9 vd ve) 20) 142 6 = nI (t + 20) := by
    unfold fdM
    rw [uI_eq, upd_e]
  have n143 : mI (fdM (uI (tp5 m t va vb vc9 vd ve) 142 0 (nI 0)) t (vv5 va vb vc9 vd ve) 20) 143 = cpF (mI m 143) (fdB (vv5 va vb vc9 vd ve)) t 20 := by
    unfold fdM
    rw [uI_ne (by decide), rI_eq, uI_ne (by decide), tp5_o (by decide) (by decide)]
  generalize fdM (uI (tp5 m t va vb vc9 vd ve) 142 0 (nI 0)) t (vv5 va vb vc9 vd ve) 20 = n at *
  have eZ : mZ n = mZ m := congrArg (fun w : WR => w.2.2) n22
  have eR : mR n = mR m := congrArg (fun w : WR => w.1) n22
  refine ⟨by rw [n22]; exact hW, eZ.trans hz, ?_, a, b, ?_, RelX_tp hA n22 (fun r _ g0 g1 _ g2 g3 g4 => no r g2 g3 g1 g4) (by rw [no 0 (by decide) (by decide) (by decide) (by decide)]) ⟨t + 20, ht, n88, n6, fun j hj => ?_⟩ (n142 21 (by decide) (by decide)) (n142 22 (by decide) (by decide)) (fun _ => no 140 (by decide) (by decide) (by decide) (by decide)) hX⟩
  · unfold RelS at hS ⊢
    rw [n142 1 (by decide) (by decide), n142 14 (by decide) (by decide), n142 2 (by decide) (by decide), no 0 (by decide) (by decide) (by decide) (by decide)]
    exact hS
  · unfold RelA at hA ⊢
    rw [eR]
    exact hA
  · rw [n143, n89]
    rcases Nat.lt_or_ge j t with y | y
    · rw [cpF_o (by omega), tp5_l y]
      exact h3 j y
    · obtain ⟨i, hi⟩ : ∃ i, j = t + i := ⟨j - t, by omega⟩
      rw [hi, cpF_i (by omega), tp5_b (by omega)]
      exact ⟨rfl, by_bt⟩
theorem P_feed {d : Nat} {m : Mm} {Q : Option Value → Mm → Prop} {z : Nat} {va vb vc9 vd ve : Int32} (hd : 16 ≤ d) (hR : Rel z m) (h : ∀ (r : Int32) m1, Wd m1.2.2 → (∀ Q2 : Option Value → Mm → Prop, (∀ m2, Rel z m2 → Q2 (some (.int r)) m2) → Cc d 0 0 243 [.ref 142, .int va, .int vb, .int vc9, .int vd, .int ve] m1 Q2) → Q (some (.int r)) m1) : Cc d 0 0 120 [.ref 0, .int va, .int vb, .int vc9, .int vd, .int ve] m Q := by
  obtain ⟨hW, hz, hS, a, b, hA, hX⟩ := id hR
  obtain ⟨hL, hLb, hab, ha, hb⟩ := RelA_L hW hA
  obtain ⟨t, ht0, ht1, ht2, ht3⟩ := id hX.1
  refine ent (n := 76) z120 (by decide) rfl (by decide) (Nat.le_of_ble_eq_true rfl) (fun sc => ?_)
  refine And.intro (Wdo_0 hW) (Exists.intro _ (And.intro (Wdr_0_6 hW) ?_))
  refine And.intro (Wdo_87 hW) (Exists.intro _ (And.intro (Wdr_87_0 hW) ?_))
  refine And.intro (Wdo_88 hW) ?_
  rw [ht1]
  refine And.intro (fun cz7 => ?_) (fun cz7 => ?_)
  · -- 7 taken: nI t ≤ nI 1180
    have kz7 : t ≤ 1180 := kle (a := t) (b := 1180) rfl rfl (by omega) (by omega) cz7
    refine And.intro ⟨by omega, Nat.le_of_ble_eq_true rfl, Nat.le_refl _, Nat.le_refl _⟩ (And.intro (Wdo_88 hW) ?_)
    refine C106 (m := m) (t := t) (v := va) hW (by omega) ?_ ht1
    refine And.intro ⟨by omega, Nat.le_of_ble_eq_true rfl, Nat.le_refl _, Nat.le_refl _⟩ (And.intro (Wdo_88 hW) ?_)
    refine C106 (m := (tpM m t va 4)) (t := (t + 4)) (v := vb) hW (by omega) ?_ tpM_88
    refine And.intro ⟨by omega, Nat.le_of_ble_eq_true rfl, Nat.le_refl _, Nat.le_refl _⟩ (And.intro (Wdo_88 hW) ?_)
    refine C106 (m := (tpM (tpM m t va 4) (t + 4) vb 4)) (t := (t + 4 + 4)) (v := vc9) hW (by omega) ?_ tpM_88
    refine And.intro ⟨by omega, Nat.le_of_ble_eq_true rfl, Nat.le_refl _, Nat.le_refl _⟩ (And.intro (Wdo_88 hW) ?_)
    refine C106 (m := (tpM (tpM (tpM m t va 4) (t + 4) vb 4) (t + 4 + 4) vc9 4)) (t := (t + 4 + 4 + 4)) (v := vd) hW (by omega) ?_ tpM_88
    refine And.intro ⟨by omega, Nat.le_of_ble_eq_true rfl, Nat.le_refl _, Nat.le_refl _⟩ (And.intro (Wdo_88 hW) ?_)
    refine C106 (m := (tpM (tpM (tpM (tpM m t va 4) (t + 4) vb 4) (t + 4 + 4) vc9 4) (t + 4 + 4 + 4) vd 4)) (t := (t + 4 + 4 + 4 + 4)) (v := ve) hW (by omega) ?_ tpM_88
    refine And.intro (Wdo_88 hW) ?_
    rw [show mI (tpM (tpM (tpM (tpM (tpM m t va 4) (t + 4) vb 4) (t + 4 + 4) vc9 4) (t + 4 + 4 + 4) vd 4) (t + 4 + 4 + 4 + 4) ve 4) 88 1 = nI (t + 20) from tpM_88]
    refine And.intro ⟨rfl, trivial, Nat.le_refl _, Nat.le_refl _⟩ ?_
    rw [show tpM (tpM (tpM (tpM (tpM m t va 4) (t + 4) vb 4) (t + 4 + 4) vc9 4) (t + 4 + 4 + 4) vd 4) (t + 4 + 4 + 4 + 4) ve 4 = tp5 m t va vb vc9 vd ve from rfl]
    refine h _ _ hW (fun Q2 h2 => ?_)
    refine ent (n := 148) z243 (by decide) rfl (by decide) (Nat.le_of_ble_eq_true rfl) (fun sc2 => ?_)
    refine And.intro (Wdo_142 hW) ?_
    refine And.intro (Wdo_142 hW) ?_
    rw [show mI (uI (tp5 m t va vb vc9 vd ve) 142 0 (nI 0)) 142 6 = nI t from by rw [uI_eq, upd_o (by decide), tp5_o (by decide) (by decide)]; exact ht2]
    refine And.intro (fun cr8 => ?_) (fun cr8 => ?_)
    · -- 8 taken: nI t + nI 20 ≤ nI 1200
      have kr8 : t + 20 ≤ 1200 := kle (a := t + 20) (b := 1200) (by simp only [nI_add, pk_mul]) rfl (by omega) (by omega) cr8
      have ht20 : t + 20 ≤ 1200 := by omega
      show Jj sc2 d 0 0 (mth 243) (pg P243 13).1 [some (.ref 142), some (.int va), some (.int vb), some (.int vc9), some (.int vd), some (.int ve), some (.int (nI 0)), none] [] (uI (tp5 m t va vb vc9 vd ve) 142 0 (nI 0)) 0 0 Q2
      have hgo := h2 _ (Rel_fed (va := va) (vb := vb) (vc9 := vc9) (vd := vd) (ve := ve) hR ht20 ht1 ht2 ht3)
      have w9 := lfed (sc := sc2) (d := d) (m := uI (tp5 m t va vb vc9 vd ve) 142 0 (nI 0)) (Q := Q2) (va := va) (vb := vb) (vc9 := vc9) (vd := vd) (ve := ve) (show Wd (uI (tp5 m t va vb vc9 vd ve) 142 0 (nI 0)).2.2 by rw [uI_22, tp5_22]; exact hW) ht20 hgo 21 0 (by decide) (by decide)
      rw [fdM_0 (by rw [uI_eq, upd_o (by decide), tp5_o (by decide) (by decide)]; exact ht2)] at w9
      exact w9
    · -- 8 not: ¬ nI t + nI 20 ≤ nI 1200
      have kr8 : 1200 < t + 20 := knle (a := t + 20) (b := 1200) (by simp only [nI_add, pk_mul]) rfl (by omega) (by omega) cr8
      omega
  · -- 7 not: ¬ nI t ≤ nI 1180
    have kz7 : 1180 < t := knle (a := t) (b := 1180) rfl rfl (by omega) (by omega) cz7
    refine And.intro ⟨rfl, trivial, Nat.le_refl _, Nat.le_refl _⟩ ?_
    refine h _ _ hW (fun Q2 h2 => ?_)
    refine ent (n := 148) z243 (by decide) rfl (by decide) (Nat.le_of_ble_eq_true rfl) (fun sc2 => ?_)
    refine And.intro (Wdo_142 hW) ?_
    refine And.intro (Wdo_142 hW) ?_
    rw [show mI (uI m 142 0 (nI 0)) 142 6 = nI t from by rw [uI_eq, upd_o (by decide)]; exact ht2]
    refine And.intro (fun cr8 => ?_) (fun cr8 => ?_)
    · -- 8 taken: nI t + nI 20 ≤ nI 1200
      have kr8 : t + 20 ≤ 1200 := kle (a := t + 20) (b := 1200) (by simp only [nI_add, pk_mul]) rfl (by omega) (by omega) cr8
      omega
    · -- 8 not: ¬ nI t + nI 20 ≤ nI 1200
      have kr8 : 1200 < t + 20 := knle (a := t + 20) (b := 1200) (by simp only [nI_add, pk_mul]) rfl (by omega) (by omega) cr8
      refine And.intro ⟨rfl, trivial, Nat.le_refl _, Nat.le_refl _⟩ ?_
      exact h2 _ (Rel_q hR)
