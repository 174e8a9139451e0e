/-- the class's days as they will be when asked for -/
noncomputable def curF (m : Mm) (a n np : Nat) : Nat → Nat → Int32 := if mI m 0 12 = nI 0 then (fun f => mI m (112 + f)) else runF (lam m a) (lam m 20) n np (mI m a 2) (-nI 1) 0 (fun f => mI m (112 + f))
def CUF (n np : Nat) (m : Mm) (a : Nat) (m9 : Mm) : Prop := m9.2.2 = m.2.2 ∧ (∀ r, r ≠ 0 → ¬ (112 ≤ r ∧ r < 124) → mI m9 r = mI m r) ∧ (∀ k, k ≠ 12 → mI m9 0 k = mI m 0 k) ∧ mI m9 0 12 = nI 0 ∧ (∀ f, f < 12 → mI m9 (112 + f) = curF m a n np f) ∧ mJ m9 = mJ m
theorem cur_ex {m : Mm} {a n np : Nat} (hn : mI m (a + 1) 4 = nI n) (hn6 : n ≤ 6) (hnp : mI m (a + 1) 8 = nI np) (hnp8 : np ≤ 8) (hD : RelD (mI m) a) : ∃ D g, ∀ f, f < 12 → curF m a n np f = runF (lam m a) (lam m 20) n np (mI m a 2) (-nI 1) g D f := by
  unfold curF
  rcases hD with h | ⟨h, D, g, hD⟩
  · refine ⟨fun f => mI m (112 + f), 0, fun f _ => ?_⟩
    rw [if_neg (by rw [h]; decide)]
  · refine ⟨D, g, fun f hf => ?_⟩
    rw [if_pos h, hD f hf, hn, hnp, nv_nI (by omega), nv_nI (by omega)]
    rfl
theorem JE_0 {Λ Ψ : Nat → Nat → Int32} : JE Λ Ψ 0 0 := ⟨fun p h => absurd h (Nat.not_lt_zero _), fun c _ h => absurd h (Nat.not_lt_zero _), fun g h => absurd h (Nat.not_lt_zero _), fun g t _ _ h => absurd h (Nat.not_lt_zero _)⟩
def gcN (f : Nat → Int32) (p : Nat) : Nat := fo (fun p y => if f p = 0 then y + 1 else y) 0 p
theorem gcN_s {f : Nat → Int32} {p : Nat} : gcN f (p + 1) = if f p = 0 then gcN f p + 1 else gcN f p := fo_s
theorem gc_n {f : Nat → Int32} : ∀ p, gcQ f p = nI (gcN f p)
  | 0 => rfl
  | p + 1 => by
    rw [gcQ_s, gcN_s, gc_n p]
    split
    · exact nI_add _ _
    · rfl
theorem gcN_l {f : Nat → Int32} : ∀ p, gcN f p ≤ p
  | 0 => Nat.le_refl _
  | p + 1 => by
    have := gcN_l (f := f) p
    rw [gcN_s]
    split <;> omega
theorem gcN_m {f : Nat → Int32} {p : Nat} (h : f p = 0) : ∀ j, gcN f p < gcN f (p + 1 + j)
  | 0 => by
    show gcN f p < gcN f (p + 1)
    rw [gcN_s, if_pos h]; omega
  | j + 1 => by
    have := gcN_m h j
    rw [show p + 1 + (j + 1) = (p + 1 + j) + 1 from rfl, gcN_s]
    split <;> omega
/-- prayer p is the one -/
def FD (f : Nat → Int32) (x : Int32) (p : Nat) : Prop := p < 8 ∧ f p = 0 ∧ gcQ f p = x
theorem FD_u {f : Nat → Int32} {x : Int32} {p q : Nat} (h : FD f x p) (g : FD f x q) : p = q := by
  have e : gcN f p = gcN f q := by
    have ez9 := h.2.2.trans g.2.2.symm
    rw [gc_n, gc_n] at ez9
    have := gcN_l (f := f) p
    have := gcN_l (f := f) q
    have := h.1
    have := g.1
    exact (nI_eq (by omega) (by omega)).mp ez9
  rcases Nat.lt_trichotomy p q with z | z | z
  · obtain ⟨j, hj⟩ := Nat.exists_eq_add_of_lt z
    have := gcN_m h.2.1 j
    rw [show p + 1 + j = q by omega] at this
    omega
  · exact z
  · obtain ⟨j, hj⟩ := Nat.exists_eq_add_of_lt z
    have := gcN_m g.2.1 j
    rw [show q + 1 + j = p by omega] at this
    omega
theorem FD_0 {f : Nat → Int32} {x : Int32} {p : Nat} (h : FD f x p) : 0 ≤ x := by
  rw [← h.2.2, gc_n]
  have := gcN_l (f := f) p
  have := h.1
  exact Int32.not_lt.mp (nI_pos (by omega))
theorem D188 {d : Nat} {m : Mm} {Q : Option Value → Mm → Prop} {a n np : Nat} (hd : 5 ≤ d) (hW : Wd m.2.2) (ha : va_rf (mR m 0 3) = .ref a) (hL : LW m.2.2 a) (hab : a = 1 ∨ a = 93) (hJ : JE (lam m a) (lam m 20) n np) (hn : mI m (a + 1) 4 = nI n) (hn6 : n ≤ 6) (hnp : mI m (a + 1) 8 = nI np) (hnp8 : np ≤ 8) (hQ : ∀ m9, CUF n np m a m9 → Q (some (.ref 112)) m9)  : Cc d 0 0 188 [.ref 0] m Q := by
  refine ent (n := 62) z188 (by decide) rfl (by decide) (Nat.le_of_ble_eq_true rfl) (fun sc => ?_)
  refine And.intro (Wdo_0 hW) ?_
  refine And.intro (fun cz2 => ?_) (fun cz2 => ?_)
  · -- 2 taken: mI m 0 12 = 0
    refine And.intro (Wdo_0 hW) (Exists.intro _ (And.intro (Wdr_0_7 hW) ?_))
    refine And.intro ⟨rfl, Nat.le_refl _, Nat.le_refl _⟩ ?_
    refine hQ m ⟨rfl, fun _ _ _ => rfl, fun _ _ => rfl, cz2, fun f hf => ?_, rfl⟩
    unfold curF
    rw [if_pos (show mI m 0 12 = nI 0 from cz2)]
  · -- 2 not: ¬ mI m 0 12 = 0
    refine And.intro (Wdo_0 hW) (Exists.intro _ (And.intro (Wdr_0_7 hW) ?_))
    refine And.intro (Wdo_0 hW) (Exists.intro _ (And.intro ha ?_))
    refine And.intro (Wdo_0 hW) (Exists.intro _ (And.intro (Wdr_0_4 hW) ?_))
    refine And.intro (Wdo_0 hW) (Exists.intro _ (And.intro ha ?_))
    refine And.intro (LWo_0 hL) ?_
    refine And.intro ⟨by omega, Nat.le_of_ble_eq_true rfl, Nat.le_refl _, Nat.le_refl _⟩ (And.intro (DWo_0 (Wd_D1 hW)) ?_)
    have hpp := (bput_self (m := m) (x := 112) (n := 12)).symm
    generalize hDD : (fun f => mI m (112 + f)) = DD at hpp
    rw [hpp]
    rw [show mI (bput m 112 12 DD) a 2 = mI m a 2 from by rw [bput_lo (by omega)]]
    refine D1 (x := 112) (n := n) (np := np) (g0 := 0) (a := a) (b := 20) (Wd_D1 hW) hL (Wd_S hW) (by omega) (by omega) (by omega) hJ hn hn6 hnp hnp8 (fun z => absurd rfl z) (fun z => absurd rfl z) ?_
    clear hpp
    have po : ∀ r, ¬ (112 ≤ r ∧ r < 124) → mI (bput m 112 12 (runF (lam m a) (lam m 20) n np (mI m a 2) (-nI 1) 0 DD)) r = mI m r := fun r hr => by
      rcases Nat.lt_or_ge r 112 with z9 | z9
      · exact bput_lo (by omega)
      · exact bput_hi (by omega)
    have pr : ∀ f, f < 12 → mI (bput m 112 12 (runF (lam m a) (lam m 20) n np (mI m a 2) (-nI 1) 0 DD)) (112 + f) = (runF (lam m a) (lam m 20) n np (mI m a 2) (-nI 1) 0 DD) f := fun f hf => bput_r hf
    have a22 : (bput m 112 12 (runF (lam m a) (lam m 20) n np (mI m a 2) (-nI 1) 0 DD)).2.2 = m.2.2 := bput_22
    have aJ : mJ (bput m 112 12 (runF (lam m a) (lam m 20) n np (mI m a 2) (-nI 1) 0 DD)) = mJ m := rfl
    generalize bput m 112 12 (runF (lam m a) (lam m 20) n np (mI m a 2) (-nI 1) 0 DD) = m9 at po pr a22 aJ ⊢
    have hW0 := hW
    have hW : Wd m9.2.2 := by rw [a22]; exact hW0
    refine And.intro (Wdo_0 hW) (And.intro (Or.inl rfl) ?_)
    refine And.intro (Wdo_0 hW) (Exists.intro _ (And.intro (Wdr_0_7 hW) ?_))
    refine And.intro ⟨rfl, Nat.le_refl _, Nat.le_refl _⟩ ?_
    exact hQ _ ⟨by rw [uI_22]; exact a22, fun r h0 hr => by rw [uI_ne h0]; exact po r hr, fun k hk => by rw [uI_eq, upd_o hk, po 0 (by decide)], by rw [uI_eq, upd_e], fun f hf => by
      unfold curF
      rw [uI_ne (by omega), if_neg (show ¬ mI m 0 12 = nI 0 from cz2), hDD]
      exact pr f hf, aJ⟩
theorem C173 {d : Nat} {m : Mm} {Q : Option Value → Mm → Prop} {a n np : Nat} (hd : 6 ≤ d) (hW : Wd m.2.2) (ha : va_rf (mR m 0 3) = .ref a) (hL : LW m.2.2 a) (hab : a = 1 ∨ a = 93) (hJ : JE (lam m a) (lam m 20) n np) (hn : mI m (a + 1) 4 = nI n) (hn6 : n ≤ 6) (hnp : mI m (a + 1) 8 = nI np) (hnp8 : np ≤ 8) {x : Int32} {p0 : Nat} (hf : FD (curF m a n np 1) x p0) (hQ : ∀ m9 p, CUF n np m a m9 → FD (curF m a n np 1) x p → Q (some (.int (nI p))) m9) : Cc d 0 0 173 [.ref 0, .int x] m Q := by
  refine ent (n := 58) z173 (by decide) rfl (by decide) (Nat.le_of_ble_eq_true rfl) (fun sc => ?_)
  refine And.intro (fun cz1 => ?_) (fun cz1 => False.elim (cz1 (FD_0 hf)))
  refine And.intro ⟨by omega, Nat.le_of_ble_eq_true rfl, Nat.le_refl _, Nat.le_refl _⟩ (And.intro (Wdo_0 hW) ?_)
  refine D188 (n := n) (np := np) (by omega) hW ha hL hab hJ hn hn6 hnp hnp8 (fun m9 hCU => ?_)
  have hW0 := hW
  have hW : Wd m9.2.2 := by rw [hCU.1]; exact hW0
  refine And.intro ⟨by omega, Nat.le_of_ble_eq_true rfl, Nat.le_refl _, Nat.le_refl _⟩ (And.intro (DWo_0 (Wd_D1 hW)) ?_)
  have er : mI m9 (112 + 1) = curF m a n np 1 := hCU.2.2.2.2.1 1 (by decide)
  refine C18 (x := 112) (Wd_D1 hW) (fun pp hp8 hp0 hpc => ?_) (fun hno => ?_)
  · -- a way behind the call
    rw [er] at hp0 hpc
    refine And.intro (fun cz11 => ?_) (fun cz11 => False.elim (nI_neg1 (show pp < 2 ^ 31 by omega) cz11))
    refine And.intro ⟨rfl, trivial, Nat.le_refl _, Nat.le_refl _⟩ ?_
    exact hQ m9 pp hCU ⟨hp8, hp0, hpc⟩
  · -- a way behind the call
    exact absurd hf.2.2 (by rw [er] at hno; exact hno p0 hf.1 hf.2.1)
theorem lld {sc : Nat × (Nat → Int32)} {d : Nat} {m : Mm} {Q : Option Value → Mm → Prop} {q np : Nat} {f : Nat → Int32} {x : Int32} (hd : 2 ≤ d) (hW : Wd m.2.2) (hN : NW m.2.2 q) (hq : va_rf (mR m 142 3) = .ref q) (h158 : 158 ≤ q) (hnp8 : np ≤ 8) (hnp : mI m q 10 = nI np) (hv : ∀ p, p < np → mI m 150 p = f p) (hy1 : ∀ p, p < np → FD f x p → Q (some (.int (nI p))) m) (hy0 : (∀ p, p < np → ¬ FD f x p) → Q (some (.int (nI 0))) (uI m 142 0 (nI 1)))  : ∀ (j p : Nat), p ≤ np → np + 1 ≤ p + j → (∀ q1, q1 < p → ¬ FD f x q1) → Jj sc d 0 0 (mth 337) (pg P337 12).1 [some (.ref 142), some (.int x), some (.int (gcQ f p)), some (.int (nI p))] [] m 0 0 Q := by
  intro j
  induction j with
  | zero => intro p h1 h2 hall; omega
  | succ j ih =>
    intro p h1 h2 hall
    refine J_w z337 (i := 12) (by decide) 98 ?_
    refine And.intro (Wdo_142 hW) (Exists.intro _ (And.intro hq ?_))
    refine And.intro (Wdo_142 hW) (Exists.intro _ (And.intro hq ?_))
    refine And.intro (NWo_0 hN) ?_
    rw [hnp]
    refine And.intro (fun cz19 => ?_) (fun cz19 => ?_)
    · -- 19 taken: nI np ≤ nI p
      have kz19 : np ≤ p := kle (a := np) (b := p) rfl rfl (by omega) (by omega) cz19
      refine And.intro (Wdo_142 hW) ?_
      refine And.intro ⟨rfl, trivial, Nat.le_refl _, Nat.le_refl _⟩ ?_
      exact hy0 (fun q1 hq1 => hall q1 (by omega))
    · -- 19 not: ¬ nI np ≤ nI p
      have kz19 : p < np := knle (a := np) (b := p) rfl rfl (by omega) (by omega) cz19
      refine And.intro (Wdo_142 hW) (Exists.intro _ (And.intro (Wdr_142_25 hW) ?_))
      refine And.intro (Wdi_150 hW (vi rfl (by omega))) ?_
      rw [nI_clamp (show p < 2 ^ 31 by omega)]
      rw [(hv p kz19)]
      refine And.intro (fun cz24 => ?_) (fun cz24 => ?_)
      · -- 24 taken: f p = 0
        refine And.intro (fun cz28 => ?_) (fun cz28 => ?_)
        · -- 28 taken: ¬ gcQ f p = x
          show Jj sc d 0 0 (mth 337) (pg P337 12).1 [some (.ref 142), some (.int x), some (.int ((gcQ f p) + nI 1)), some (.int (nI p + nI 1))] [] m 0 0 Q
          rw [show nI p + nI 1 = nI (p + 1) from by simp only [nI_add, pk_mul]]
          have hall2 : ∀ q1, q1 < p + 1 → ¬ FD f x q1 := by
            intro v9 h9
            rcases Nat.lt_or_ge v9 p with q9 | q9
            · exact hall v9 q9
            · have ez9 : v9 = p := by omega
              rw [ez9]
              exact fun z => cz28 z.2.2
          have w9 := ih (p + 1) (by omega) (by omega) hall2
          rw [gcQ_s, if_pos cz24] at w9
          exact w9
        · -- 28 not: gcQ f p = x
          refine And.intro ⟨rfl, trivial, Nat.le_refl _, Nat.le_refl _⟩ ?_
          exact hy1 p kz19 ⟨by omega, cz24, cz28⟩
      · -- 24 not: ¬ f p = 0
        show Jj sc d 0 0 (mth 337) (pg P337 12).1 [some (.ref 142), some (.int x), some (.int (gcQ f p)), some (.int (nI p + nI 1))] [] m 0 0 Q
        rw [show nI p + nI 1 = nI (p + 1) from by simp only [nI_add, pk_mul]]
        have hall2 : ∀ q1, q1 < p + 1 → ¬ FD f x q1 := by
          intro v9 h9
          rcases Nat.lt_or_ge v9 p with q9 | q9
          · exact hall v9 q9
          · have ez9 : v9 = p := by omega
            rw [ez9]
            exact fun z => cz24 z.2.1
        have w9 := ih (p + 1) (by omega) (by omega) hall2
        rw [gcQ_s, if_neg cz24] at w9
        exact w9
