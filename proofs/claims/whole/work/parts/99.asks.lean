/-- the reference's asked and askedMost -/
def asM (m : Mm) (A M : Int32) : Mm := uI (uI m 142 34 M) 142 33 A
def asI (D : Nat → Nat → Int32) (A M : Int32) : Prop := D 0 1 = M ∧ (M = nI 7 ∨ D 0 0 = A)
theorem as_34 {m : Mm} {A M : Int32} : mI (asM m A M) 142 34 = M := by
  unfold asM
  rw [uI_eq, upd_o (by decide), uI_eq, upd_e]
theorem as_o {m : Mm} {A M : Int32} {r : Nat} (h : r ≠ 142) : mI (asM m A M) r = mI m r := by
  unfold asM
  rw [uI_ne h, uI_ne h]
theorem as_x {m : Mm} {A M : Int32} {x : Nat} (h1 : x ≠ 33) (h2 : x ≠ 34) : mI (asM m A M) 142 x = mI m 142 x := by
  unfold asM
  rw [uI_eq, upd_o h1, uI_eq, upd_o h2]
theorem as_33 {m : Mm} {A M : Int32} : mI (asM m A M) 142 33 = A := by
  unfold asM
  rw [uI_eq, upd_e]
theorem as_22 {m : Mm} {A M : Int32} : (asM m A M).2.2 = m.2.2 := by
  unfold asM
  rw [uI_22, uI_22]
theorem uI_sw {m : Mm} {a i j : Nat} {x y : Int32} (h : i ≠ j) : uI (uI m a i x) a j y = uI (uI m a j y) a i x := by
  have h1 : ∀ r, mI (uI (uI m a i x) a j y) r = mI (uI (uI m a j y) a i x) r := fun r => by
    by_cases ha : r = a
    · rw [ha, uI_eq, uI_eq, uI_eq, uI_eq]
      funext z
      by_cases hz : z = j
      · rw [hz, upd_e, upd_o (Ne.symm h), upd_e]
      · by_cases hz2 : z = i
        · rw [hz2, upd_o (by rw [← hz2]; exact hz), upd_e, upd_e]
        · rw [upd_o hz, upd_o hz2, upd_o hz2, upd_o hz]
    · rw [uI_ne ha, uI_ne ha, uI_ne ha, uI_ne ha]
  exact Prod.ext (funext h1) rfl
theorem uI_tw {m : Mm} {a i : Nat} {x y : Int32} : uI (uI m a i x) a i y = uI m a i y := by
  have h1 : ∀ r, mI (uI (uI m a i x) a i y) r = mI (uI m a i y) r := fun r => by
    by_cases ha : r = a
    · rw [ha, uI_eq, uI_eq, uI_eq]
      funext z
      by_cases hz : z = i
      · rw [hz, upd_e, upd_e]
      · rw [upd_o hz, upd_o hz, upd_o hz]
    · rw [uI_ne ha, uI_ne ha, uI_ne ha]
  exact Prod.ext (funext h1) rfl
theorem as_s {m : Mm} {A M B N : Int32} : uI (uI (asM m A M) 142 34 N) 142 33 B = asM m B N := by
  unfold asM
  rw [uI_sw (i := 33) (j := 34) (by decide), uI_tw, uI_tw]
theorem as_1 {off : Nat → Int32} {n : Nat} {ft A M : Int32} {t s u : Nat} {D : Nat → Nat → Int32} (h : asI D A M) (hm : M ≤ bhF off n ft t s u) : asI (skS off n ft t s u D) A M := by
  unfold skS
  rw [if_pos (by rw [h.1]; exact hm)]
  exact h
theorem as_2 {off : Nat → Int32} {n : Nat} {ft A M : Int32} {t s u : Nat} {D : Nat → Nat → Int32} (h : asI D A M) (hm : ¬ M ≤ bhF off n ft t s u) : asI (skS off n ft t s u D) (nI 1000 * nI t + nI 100 * nI s + nI u) (bhF off n ft t s u) := by
  unfold skS
  rw [if_neg (by rw [h.1]; exact hm)]
  exact ⟨rfl, Or.inr rfl⟩
theorem bh_m {off : Nat → Int32} {n : Nat} {ft : Int32} {t s u : Nat} : (if bcF ft - bcF (hoF off t s (nI u) n &&& ft) < bcF (hoF off t s (nI u) n &&& ft) then bcF (hoF off t s (nI u) n &&& ft) else bcF ft - bcF (hoF off t s (nI u) n &&& ft)) = bhF off n ft t s u := by
  unfold bhF
  rw [and_c (x := hoF off t s (nI u) n)]
  generalize bcF (ft &&& hoF off t s (nI u) n) = y
  generalize bcF ft - y = v
  by_cases h1 : v < y
  · rw [if_pos h1, if_neg (Int32.not_lt.mpr (Int32.le_of_lt h1))]
  · rw [if_neg h1]
    by_cases h2 : y < v
    · rw [if_pos h2]
    · rw [if_neg h2]
      exact Int32.le_antisymm (Int32.not_lt.mp h2) (Int32.not_lt.mp h1)
theorem lask_a {sc : Nat × (Nat → Int32)} {d : Nat} {m : Mm} {Q : Option Value → Mm → Prop} {q n nt : Nat} (hd : 3 ≤ d) (hW : Wd m.2.2) (hN : NW m.2.2 q) (h158 : 158 ≤ q) (hq : va_rf (mR m 142 3) = .ref q) (hn : mI m q 6 = nI n) (hn6 : n ≤ 6) (hnt : mI m q 5 = nI nt) (hnt6 : nt ≤ 6) {ft : Int32} {D : Nat → Nat → Int32} {t s : Nat} (ht : t < nt) (hs : s < 5) (hon : bq (mI m q 4) (nI s)) (hk : ∀ A M, asI (skQ (mI m (q + 7)) n ft t s D 24) A M → Jj sc d 0 0 (mth 318) (pg P318 15).1 [some (.ref 142), some (.int ft), some (.int (nI t)), some (.int (nI (s + 1))), none, none, none, none] [] (asM m A M) 0 0 Q)  : ∀ (j u : Nat) (A M : Int32), u ≤ 24 → 24 + 1 ≤ u + j → (asI (skQ (mI m (q + 7)) n ft t s D u) A M) → Jj sc d 0 0 (mth 318) (pg P318 20).1 [some (.ref 142), some (.int ft), some (.int (nI t)), some (.int (nI s)), some (.int (nI u)), none, none, none] [] (asM m A M) 0 0 Q := by
  intro j
  induction j with
  | zero => intro u A M h1 h2 hall; omega
  | succ j ih =>
    intro u A M h1 h2 hall
    refine J_w z318 (i := 20) (by decide) 168 ?_
    refine And.intro (fun cz22 => ?_) (fun cz22 => ?_)
    · -- 22 taken: nI 24 ≤ nI u
      have kz22 : 24 ≤ u := kle (a := 24) (b := u) rfl rfl (by omega) (by omega) cz22
      show Jj sc d 0 0 (mth 318) (pg P318 15).1 [some (.ref 142), some (.int ft), some (.int (nI t)), some (.int (nI s + nI 1)), some (.int (nI u)), none, none, none] [] (asM m A M) 0 0 Q
      rw [show nI s + nI 1 = nI (s + 1) from by simp only [nI_add, pk_mul]]
      refine J_wk (L' := [some (.ref 142), some (.int ft), some (.int (nI t)), some (.int (nI (s + 1))), none, none, none, none]) ⟨rfl, rfl, rfl, rfl, trivial⟩ ?_
      rw [show u = 24 by omega] at hall
      exact hk A M hall
    · -- 22 not: ¬ nI 24 ≤ nI u
      have kz22 : u < 24 := knle (a := 24) (b := u) rfl rfl (by omega) (by omega) cz22
      refine And.intro ⟨by omega, Nat.le_of_ble_eq_true rfl, Nat.le_refl _, Nat.le_refl _⟩ (And.intro (Wdo_142 hW) ?_)
      refine C260 (m := (asM m A M)) hW hN hq (by omega) ?_
      rw [as_o (r := q) (by omega)]
      refine And.intro (fun cz26 => False.elim (absurd hon (bi_eq0.mp cz26))) (fun cz26 => ?_)
      refine And.intro ⟨by omega, Nat.le_of_ble_eq_true rfl, Nat.le_refl _, Nat.le_refl _⟩ (And.intro (Wdo_142 hW) ?_)
      refine C258 (m := (asM m A M)) (t := t) (s := s) (n := n) (nt := nt) (by omega) hW hN h158 hq ((congrFun (as_o (by omega)) 6).trans hn) hn6 ((congrFun (as_o (by omega)) 5).trans hnt) hnt6 (by omega) (by omega) ?_
      rw [as_o (r := q + 7) (by omega)]
      show zw sc d 0 0 (mth 318).2.2.2.2.1 P318 (KJ sc d 0 0 (mth 318) P318 Q) Q 157 32 [some (.ref 142), some (.int ft), some (.int (nI t)), some (.int (nI s)), some (.int (nI u)), none, none, none] [.int (hoF (mI m (q + 7)) t s (nI u) n)] (asM m A M) 0 0
      refine And.intro ⟨by omega, Nat.le_of_ble_eq_true rfl, Nat.le_refl _, Nat.le_refl _⟩ ?_
      refine C206 ?_
      show zw sc d 0 0 (mth 318).2.2.2.2.1 P318 (KJ sc d 0 0 (mth 318) P318 Q) Q 154 35 [some (.ref 142), some (.int ft), some (.int (nI t)), some (.int (nI s)), some (.int (nI u)), none, none, none] [.int (bcF ((hoF (mI m (q + 7)) t s (nI u) n) &&& ft))] (asM m A M) 0 0
      refine And.intro ⟨by omega, Nat.le_of_ble_eq_true rfl, Nat.le_refl _, Nat.le_refl _⟩ ?_
      refine C206 ?_
      show zw sc d 0 0 (mth 318).2.2.2.2.1 P318 (KJ sc d 0 0 (mth 318) P318 Q) Q 151 38 [some (.ref 142), some (.int ft), some (.int (nI t)), some (.int (nI s)), some (.int (nI u)), some (.int (bcF ((hoF (mI m (q + 7)) t s (nI u) n) &&& ft))), none, none] [.int (bcF ft)] (asM m A M) 0 0
      refine And.intro (fun cz43 => ?_) (fun cz43 => ?_)
      · -- 43 taken: bcF ((hoF (mI m (q + 7)) t s (nI u) n) &&& ft) ≤ (bcF ft) - (bcF ((hoF (mI m (q + 7)) t s (nI u) n) &&& ft))
        refine And.intro (Wdo_142 hW) ?_
        rw [as_34]
        refine And.intro (fun cz51 => ?_) (fun cz51 => ?_)
        · -- 51 taken: (bcF ft) - (bcF ((hoF (mI m (q + 7)) t s (nI u) n) &&& ft)) < M
          refine And.intro (Wdo_142 hW) ?_
          refine And.intro (Wdo_142 hW) ?_
          have hbm := bh_m (off := (mI m (q + 7))) (n := n) (ft := ft) (t := t) (s := s) (u := u)
          rw [if_neg (Int32.not_lt.mpr cz43)] at hbm
          rw [hbm] at cz51
          show Jj sc d 0 0 (mth 318) (pg P318 20).1 [some (.ref 142), some (.int ft), some (.int (nI t)), some (.int (nI s)), some (.int (nI u + nI 1)), some (.int (bcF ((hoF (mI m (q + 7)) t s (nI u) n) &&& ft))), some (.int ((bcF ft) - (bcF ((hoF (mI m (q + 7)) t s (nI u) n) &&& ft)))), some (.int ((bcF ft) - (bcF ((hoF (mI m (q + 7)) t s (nI u) n) &&& ft))))] [] (uI (uI (asM m A M) 142 34 ((bcF ft) - (bcF ((hoF (mI m (q + 7)) t s (nI u) n) &&& ft)))) 142 33 (((nI 1000 * nI t) + (nI 100 * nI s)) + nI u)) 0 0 Q
          rw [show nI u + nI 1 = nI (u + 1) from by simp only [nI_add, pk_mul]]
          refine J_wk (L' := [some (.ref 142), some (.int ft), some (.int (nI t)), some (.int (nI s)), some (.int (nI (u + 1))), none, none, none]) ⟨rfl, rfl, rfl, rfl, rfl, trivial⟩ ?_
          rw [hbm, as_s]
          exact ih (u + 1) _ _ (by omega) (by omega) (by rw [show skQ (mI m (q + 7)) n ft t s D (u + 1) = skS (mI m (q + 7)) n ft t s u (skQ (mI m (q + 7)) n ft t s D u) from fo_s]; exact as_2 hall (Int32.not_le.mpr cz51))
        · -- 51 not: ¬ (bcF ft) - (bcF ((hoF (mI m (q + 7)) t s (nI u) n) &&& ft)) < M
          have hbm := bh_m (off := (mI m (q + 7))) (n := n) (ft := ft) (t := t) (s := s) (u := u)
          rw [if_neg (Int32.not_lt.mpr cz43)] at hbm
          rw [hbm] at cz51
          show Jj sc d 0 0 (mth 318) (pg P318 20).1 [some (.ref 142), some (.int ft), some (.int (nI t)), some (.int (nI s)), some (.int (nI u + nI 1)), some (.int (bcF ((hoF (mI m (q + 7)) t s (nI u) n) &&& ft))), some (.int ((bcF ft) - (bcF ((hoF (mI m (q + 7)) t s (nI u) n) &&& ft)))), some (.int ((bcF ft) - (bcF ((hoF (mI m (q + 7)) t s (nI u) n) &&& ft))))] [] (asM m A M) 0 0 Q
          rw [show nI u + nI 1 = nI (u + 1) from by simp only [nI_add, pk_mul]]
          refine J_wk (L' := [some (.ref 142), some (.int ft), some (.int (nI t)), some (.int (nI s)), some (.int (nI (u + 1))), none, none, none]) ⟨rfl, rfl, rfl, rfl, rfl, trivial⟩ ?_
          exact ih (u + 1) A M (by omega) (by omega) (by rw [show skQ (mI m (q + 7)) n ft t s D (u + 1) = skS (mI m (q + 7)) n ft t s u (skQ (mI m (q + 7)) n ft t s D u) from fo_s]; exact as_1 hall (Int32.not_lt.mp cz51))
      · -- 43 not: ¬ bcF ((hoF (mI m (q + 7)) t s (nI u) n) &&& ft) ≤ (bcF ft) - (bcF ((hoF (mI m (q + 7)) t s (nI u) n) &&& ft))
        refine And.intro (Wdo_142 hW) ?_
        rw [as_34]
        refine And.intro (fun cz51 => ?_) (fun cz51 => ?_)
        · -- 51 taken: bcF ((hoF (mI m (q + 7)) t s (nI u) n) &&& ft) < M
          refine And.intro (Wdo_142 hW) ?_
          refine And.intro (Wdo_142 hW) ?_
          have hbm := bh_m (off := (mI m (q + 7))) (n := n) (ft := ft) (t := t) (s := s) (u := u)
          rw [if_pos (Int32.not_le.mp cz43)] at hbm
          rw [hbm] at cz51
          show Jj sc d 0 0 (mth 318) (pg P318 20).1 [some (.ref 142), some (.int ft), some (.int (nI t)), some (.int (nI s)), some (.int (nI u + nI 1)), some (.int (bcF ((hoF (mI m (q + 7)) t s (nI u) n) &&& ft))), some (.int ((bcF ft) - (bcF ((hoF (mI m (q + 7)) t s (nI u) n) &&& ft)))), some (.int (bcF ((hoF (mI m (q + 7)) t s (nI u) n) &&& ft)))] [] (uI (uI (asM m A M) 142 34 (bcF ((hoF (mI m (q + 7)) t s (nI u) n) &&& ft))) 142 33 (((nI 1000 * nI t) + (nI 100 * nI s)) + nI u)) 0 0 Q
          rw [show nI u + nI 1 = nI (u + 1) from by simp only [nI_add, pk_mul]]
          refine J_wk (L' := [some (.ref 142), some (.int ft), some (.int (nI t)), some (.int (nI s)), some (.int (nI (u + 1))), none, none, none]) ⟨rfl, rfl, rfl, rfl, rfl, trivial⟩ ?_
          rw [hbm, as_s]
          exact ih (u + 1) _ _ (by omega) (by omega) (by rw [show skQ (mI m (q + 7)) n ft t s D (u + 1) = skS (mI m (q + 7)) n ft t s u (skQ (mI m (q + 7)) n ft t s D u) from fo_s]; exact as_2 hall (Int32.not_le.mpr cz51))
        · -- 51 not: ¬ bcF ((hoF (mI m (q + 7)) t s (nI u) n) &&& ft) < M
          have hbm := bh_m (off := (mI m (q + 7))) (n := n) (ft := ft) (t := t) (s := s) (u := u)
          rw [if_pos (Int32.not_le.mp cz43)] at hbm
          rw [hbm] at cz51
          show Jj sc d 0 0 (mth 318) (pg P318 20).1 [some (.ref 142), some (.int ft), some (.int (nI t)), some (.int (nI s)), some (.int (nI u + nI 1)), some (.int (bcF ((hoF (mI m (q + 7)) t s (nI u) n) &&& ft))), some (.int ((bcF ft) - (bcF ((hoF (mI m (q + 7)) t s (nI u) n) &&& ft)))), some (.int (bcF ((hoF (mI m (q + 7)) t s (nI u) n) &&& ft)))] [] (asM m A M) 0 0 Q
          rw [show nI u + nI 1 = nI (u + 1) from by simp only [nI_add, pk_mul]]
          refine J_wk (L' := [some (.ref 142), some (.int ft), some (.int (nI t)), some (.int (nI s)), some (.int (nI (u + 1))), none, none, none]) ⟨rfl, rfl, rfl, rfl, rfl, trivial⟩ ?_
          exact ih (u + 1) A M (by omega) (by omega) (by rw [show skQ (mI m (q + 7)) n ft t s D (u + 1) = skS (mI m (q + 7)) n ft t s u (skQ (mI m (q + 7)) n ft t s D u) from fo_s]; exact as_1 hall (Int32.not_lt.mp cz51))
theorem lask_z {sc : Nat × (Nat → Int32)} {d : Nat} {m : Mm} {Q : Option Value → Mm → Prop} {q n nt : Nat} (hd : 3 ≤ d) (hW : Wd m.2.2) (hN : NW m.2.2 q) (h158 : 158 ≤ q) (hq : va_rf (mR m 142 3) = .ref q) (hn : mI m q 6 = nI n) (hn6 : n ≤ 6) (hnt : mI m q 5 = nI nt) (hnt6 : nt ≤ 6) {ft : Int32} {D : Nat → Nat → Int32} {A M : Int32} {t s : Nat} (hs : s < 5) (hon : ¬ bq (mI m q 4) (nI s)) (hk : Jj sc d 0 0 (mth 318) (pg P318 15).1 [some (.ref 142), some (.int ft), some (.int (nI t)), some (.int (nI (s + 1))), none, none, none, none] [] (asM m A M) 0 0 Q) : Jj sc d 0 0 (mth 318) (pg P318 20).1 [some (.ref 142), some (.int ft), some (.int (nI t)), some (.int (nI s)), some (.int (nI 0)), none, none, none] [] (asM m A M) 0 0 Q := by
  refine J_w z318 (i := 20) (by decide) 168 ?_
  refine And.intro (fun cz22 => False.elim (absurd cz22 (by decide))) (fun cz22 => ?_)
  refine And.intro ⟨by omega, Nat.le_of_ble_eq_true rfl, Nat.le_refl _, Nat.le_refl _⟩ (And.intro (Wdo_142 hW) ?_)
  refine C260 (m := (asM m A M)) hW hN hq (by omega) ?_
  rw [as_o (r := q) (by omega)]
  refine And.intro (fun cz26 => ?_) (fun cz26 => False.elim (absurd (bi_ne0.mp cz26) hon))
  show Jj sc d 0 0 (mth 318) (pg P318 15).1 [some (.ref 142), some (.int ft), some (.int (nI t)), some (.int (nI s + nI 1)), some (.int (nI 0)), none, none, none] [] (asM m A M) 0 0 Q
  rw [show nI s + nI 1 = nI (s + 1) from by simp only [nI_add, pk_mul]]
  refine J_wk (L' := [some (.ref 142), some (.int ft), some (.int (nI t)), some (.int (nI (s + 1))), none, none, none, none]) ⟨rfl, rfl, rfl, rfl, trivial⟩ ?_
  exact hk
theorem lask_b {sc : Nat × (Nat → Int32)} {d : Nat} {m : Mm} {Q : Option Value → Mm → Prop} {q n nt : Nat} (hd : 3 ≤ d) (hW : Wd m.2.2) (hN : NW m.2.2 q) (h158 : 158 ≤ q) (hq : va_rf (mR m 142 3) = .ref q) (hn : mI m q 6 = nI n) (hn6 : n ≤ 6) (hnt : mI m q 5 = nI nt) (hnt6 : nt ≤ 6) {ft : Int32} {D : Nat → Nat → Int32} {t : Nat} (ht : t < nt) (hk : ∀ A M, asI (smQ (mI m (q + 7)) n ft (mI m q 4) t D 5) A M → Jj sc d 0 0 (mth 318) (pg P318 8).1 [some (.ref 142), some (.int ft), some (.int (nI (t + 1))), none, none, none, none, none] [] (asM m A M) 0 0 Q)  : ∀ (j s : Nat) (A M : Int32), s ≤ 5 → 5 + 1 ≤ s + j → (asI (smQ (mI m (q + 7)) n ft (mI m q 4) t D s) A M) → Jj sc d 0 0 (mth 318) (pg P318 15).1 [some (.ref 142), some (.int ft), some (.int (nI t)), some (.int (nI s)), none, none, none, none] [] (asM m A M) 0 0 Q := by
  intro j
  induction j with
  | zero => intro s A M h1 h2 hall; omega
  | succ j ih =>
    intro s A M h1 h2 hall
    refine J_w z318 (i := 15) (by decide) 168 ?_
    refine And.intro (fun cz17 => ?_) (fun cz17 => ?_)
    · -- 17 taken: nI 5 ≤ nI s
      have kz17 : 5 ≤ s := kle (a := 5) (b := s) rfl rfl (by omega) (by omega) cz17
      show Jj sc d 0 0 (mth 318) (pg P318 8).1 [some (.ref 142), some (.int ft), some (.int (nI t + nI 1)), some (.int (nI s)), none, none, none, none] [] (asM m A M) 0 0 Q
      rw [show nI t + nI 1 = nI (t + 1) from by simp only [nI_add, pk_mul]]
      refine J_wk (L' := [some (.ref 142), some (.int ft), some (.int (nI (t + 1))), none, none, none, none, none]) ⟨rfl, rfl, rfl, trivial⟩ ?_
      rw [show s = 5 by omega] at hall
      exact hk A M hall
    · -- 17 not: ¬ nI 5 ≤ nI s
      have kz17 : s < 5 := knle (a := 5) (b := s) rfl rfl (by omega) (by omega) cz17
      show Jj sc d 0 0 (mth 318) (pg P318 20).1 [some (.ref 142), some (.int ft), some (.int (nI t)), some (.int (nI s)), some (.int (nI 0)), none, none, none] [] (asM m A M) 0 0 Q
      by_cases hon : bq (mI m q 4) (nI s)
      · have e9q : smQ (mI m (q + 7)) n ft (mI m q 4) t D (s + 1) = skQ (mI m (q + 7)) n ft t s (smQ (mI m (q + 7)) n ft (mI m q 4) t D s) 24 := by rw [show smQ (mI m (q + 7)) n ft (mI m q 4) t D (s + 1) = smS (mI m (q + 7)) n ft (mI m q 4) t s (smQ (mI m (q + 7)) n ft (mI m q 4) t D s) from fo_s]; exact if_pos hon
        exact lask_a (by omega) hW hN h158 hq hn hn6 hnt hnt6 ht kz17 hon (fun A2 M2 hh => ih (s + 1) A2 M2 (by omega) (by omega) (by rw [e9q]; exact hh)) 25 0 A M (by decide) (by decide) hall
      · have e9q : smQ (mI m (q + 7)) n ft (mI m q 4) t D (s + 1) = smQ (mI m (q + 7)) n ft (mI m q 4) t D s := by rw [show smQ (mI m (q + 7)) n ft (mI m q 4) t D (s + 1) = smS (mI m (q + 7)) n ft (mI m q 4) t s (smQ (mI m (q + 7)) n ft (mI m q 4) t D s) from fo_s]; exact if_neg hon
        exact lask_z (D := D) (by omega) hW hN h158 hq hn hn6 hnt hnt6 kz17 hon (ih (s + 1) A M (by omega) (by omega) (by rw [e9q]; exact hall))
theorem lask_c {sc : Nat × (Nat → Int32)} {d : Nat} {m : Mm} {Q : Option Value → Mm → Prop} {q n nt : Nat} (hd : 3 ≤ d) (hW : Wd m.2.2) (hN : NW m.2.2 q) (h158 : 158 ≤ q) (hq : va_rf (mR m 142 3) = .ref q) (hn : mI m q 6 = nI n) (hn6 : n ≤ 6) (hnt : mI m q 5 = nI nt) (hnt6 : nt ≤ 6) {ft : Int32} {D : Nat → Nat → Int32} (hQ : ∀ A M, asI (stQ (mI m (q + 7)) n ft (mI m q 4) D nt) A M → Q none (asM m A M))  : ∀ (j t : Nat) (A M : Int32), t ≤ nt → nt + 1 ≤ t + j → (asI (stQ (mI m (q + 7)) n ft (mI m q 4) D t) A M) → Jj sc d 0 0 (mth 318) (pg P318 8).1 [some (.ref 142), some (.int ft), some (.int (nI t)), none, none, none, none, none] [] (asM m A M) 0 0 Q := by
  intro j
  induction j with
  | zero => intro t A M h1 h2 hall; omega
  | succ j ih =>
    intro t A M h1 h2 hall
    refine J_w z318 (i := 8) (by decide) 168 ?_
    refine And.intro (Wdo_142 hW) (Exists.intro _ (And.intro hq ?_))
    refine And.intro (NWo_0 hN) ?_
    rw [((congrFun (as_o (by omega)) 5).trans hnt)]
    refine And.intro (fun cz12 => ?_) (fun cz12 => ?_)
    · -- 12 taken: nI nt ≤ nI t
      have kz12 : nt ≤ t := kle (a := nt) (b := t) rfl rfl (by omega) (by omega) cz12
      refine And.intro ⟨rfl, rfl, Nat.le_refl _, Nat.le_refl _⟩ ?_
      rw [show t = nt by omega] at hall
      exact hQ A M hall
    · -- 12 not: ¬ nI nt ≤ nI t
      have kz12 : t < nt := knle (a := nt) (b := t) rfl rfl (by omega) (by omega) cz12
      show Jj sc d 0 0 (mth 318) (pg P318 15).1 [some (.ref 142), some (.int ft), some (.int (nI t)), some (.int (nI 0)), none, none, none, none] [] (asM m A M) 0 0 Q
      exact lask_b (D := stQ (mI m (q + 7)) n ft (mI m q 4) D t) (by omega) hW hN h158 hq hn hn6 hnt hnt6 kz12 (fun A2 M2 hh => ih (t + 1) A2 M2 (by omega) (by omega) hh) 6 0 A M (by decide) (by decide) hall
theorem C318 {d : Nat} {m : Mm} {Q : Option Value → Mm → Prop} {q n nt ns : Nat} (hd : 4 ≤ d) (hW : Wd m.2.2) (hN : NW m.2.2 q) (h158 : 158 ≤ q) (hq : va_rf (mR m 142 3) = .ref q) (hn : mI m q 6 = nI n) (hn6 : n ≤ 6) (hnt : mI m q 5 = nI nt) (hnt6 : nt ≤ 6) (hns : mI m q 14 = nI ns) (hns8 : ns ≤ 8) (hse : ∀ i, i < ns → iR (mI m (q + 22) i) 6 ∧ iR (mI m (q + 23) i) 5) {D : Nat → Nat → Int32} (hQ : ∀ A M, asI (stQ (mI m (q + 7)) n (rfQ (mI m (q + 7)) (mI m (q + 22)) (mI m (q + 23)) (mI m (q + 24)) (mI m (q + 25)) n ns) (mI m q 4) (skZ D) nt) A M → Q none (asM m A M)) : Cc d 0 0 318 [.ref 142] m Q := by
  refine ent (n := 168) z318 (by decide) rfl (by decide) (Nat.le_of_ble_eq_true rfl) (fun sc => ?_)
  refine And.intro ⟨by omega, Nat.le_of_ble_eq_true rfl, Nat.le_refl _, Nat.le_refl _⟩ (And.intro (Wdo_142 hW) ?_)
  refine C316 (ns := ns) (by omega) hW hN h158 hq hn hn6 hnt hnt6 hns hns8 hse ?_
  refine And.intro (Wdo_142 hW) ?_
  rw [show uI m 142 34 (nI 7) = asM m (mI m 142 33) (nI 7) from (uI_self (m := uI m 142 34 (nI 7)) (by rw [uI_eq, upd_o (by decide)])).symm]
  show Jj sc d 0 0 (mth 318) (pg P318 8).1 [some (.ref 142), some (.int (rfQ (mI m (q + 7)) (mI m (q + 22)) (mI m (q + 23)) (mI m (q + 24)) (mI m (q + 25)) n ns)), some (.int (nI 0)), none, none, none, none, none] [] (asM m (mI m 142 33) (nI 7)) 0 0 Q
  exact lask_c (D := skZ D) (by omega) hW hN h158 hq hn hn6 hnt hnt6 hQ (nt + 1) 0 _ _ (Nat.zero_le _) (by omega) ⟨rfl, Or.inl rfl⟩
