def raPt (B : Nat → Int32) (n : Nat) (Y : Rs (Nat → Nat → Int32)) (D : Nat → Nat → Int32) (K : Nat → Nat → Int64) (E : Nat → Nat → Int32) : Prop := match Y with
  | .inl e => RX B n (.inl e) D K
  | .inr Λ => (∃ j, RX B n (.inr j) D K) ∧ LQ Λ E ∧ ∃ T, LRI T Λ
theorem rd_f {B : Nat → Int32} {n r i : Nat} {T : NT} {Λ : Nat → Nat → Int32} {e : Nat × Nat} (h : olF T Λ B n i = .inl e) : rdF B n (r + 1) T Λ i = .inl e := by
  unfold olF at h
  show rb (opF Λ B n i) _ = _
  cases ho : opF Λ B n i with
  | inl f => rw [ho] at h; exact congrArg Sum.inl (Sum.inl.inj h)
  | inr s =>
    rw [ho] at h
    change rb (lnF s.1 T Λ B n s.2) _ = _ at h
    show rb (lnF s.1 T Λ B n s.2) _ = _
    cases hl : lnF s.1 T Λ B n s.2 with
    | inl f => rw [hl] at h; exact congrArg Sum.inl (Sum.inl.inj h)
    | inr t => rw [hl] at h; cases h
theorem rd_o {B : Nat → Int32} {n r i s j : Nat} {T T1 : NT} {Λ Λ1 : Nat → Nat → Int32} (h : olF T Λ B n i = .inr (s, T1, Λ1, j)) : rdF B n (r + 1) T Λ i = if kiF B n j = 0 then (if laP (bump Λ1 s) then .inl (6, plF B n j) else .inr (bump Λ1 s)) else rb (pSign (nI 59) B n j) fun x => rdF B n r T1 (bump Λ1 s) x := by
  unfold olF at h
  obtain ⟨a, h1, h⟩ := rb_r h
  obtain ⟨b, h2, h⟩ := rb_r h
  have e := Sum.inr.inj h
  have ez1 : a.1 = s := congrArg Prod.fst e
  have ez2 : b = (T1, Λ1, j) := congrArg Prod.snd e
  show rb (opF Λ B n i) _ = _
  rw [h1]
  show rb (lnF a.1 T Λ B n a.2) _ = _
  rw [h2, ez2, ez1]
  rfl
theorem ol_k {B : Nat → Int32} {n i s j : Nat} {T T1 : NT} {Λ Λ1 : Nat → Nat → Int32} (hI : LRI T Λ) (h : olF T Λ B n i = .inr (s, T1, Λ1, j)) : LRI T1 (bump Λ1 s) ∧ LKp (bump Λ1 s) ∧ i < j := by
  unfold olF at h
  obtain ⟨⟨a, p⟩, h1, h⟩ := rb_r h
  obtain ⟨b, h2, h⟩ := rb_r h
  have e := Sum.inr.inj h
  have ez1 : a = s := congrArg Prod.fst e
  have ez2 : b = (T1, Λ1, j) := congrArg Prod.snd e
  subst ez1
  rw [ez2] at h2
  have ho := opF_c hI h1
  have hI2 := pvN h2 hI ho.1 ho.2.1 ho.2.2.1 ho.2.2.2.1
  have hm := mnl_N h2 ho.1
  have hg := nxF_gt ho.2.2.2.2.2.2.2.1
  have hp : p = nxF B n i := ho.2.2.2.2.2.2.1
  exact ⟨hI2, LKp_n h2 ho.1 hI2 ho.2.2.2.2.2.1 ho.2.2.2.2.1 (hI.1 0 (by decide)).1, by omega⟩
theorem ps_59 {B : Nat → Int32} {n i : Nat} (h : pSign (nI 59) B n i = .inr (nxF B n i)) : kiF B n i = 4 := by
  unfold pSign at h
  split at h
  · rename_i z; exact z.1
  · cases h
theorem la_q {T : NT} {Λ E : Nat → Nat → Int32} (hI : LRI T Λ) (h0 : Q0 Λ E) (hw : 2 ≤ nv (Λ 0 0)) : laP Λ ↔ (E 0 0 = 0 ∨ E 0 2 < E 0 1 ∨ E 0 5 = 0 ∨ E 0 6 = 0) := by
  have n0 : ¬ E 0 0 = 0 := fun z => by
    rw [h0.1] at z
    rw [z] at hw
    exact absurd hw (by decide)
  rw [h0.2.2.1, h0.2.1, h0.2.2.2.2.2.1, h0.2.2.2.2.2.2.1]
  exact ⟨fun z => Or.inr z, fun z => z.resolve_left n0⟩
theorem LK_w {T : NT} {Λ : Nat → Nat → Int32} (hK : LKp Λ) (h : 0 < nv (Λ 1 0)) : 2 ≤ nv (Λ 0 0) := hK.2 h
theorem lall_f {sc : Nat × (Nat → Int32)} {d : Nat} {m : Mm} {Q : Option Value → Mm → Prop} {q : Nat} {E : Nat → Nat → Int32} {L : Nat → Nat → Int64} (hW : Wd m.2.2) (hN : NW m.2.2 q) (hdq : q + 29 ≤ 142 ∨ 142 + 3 ≤ q) {D : Nat → Nat → Int32} {K : Nat → Nat → Int64} {B : Nat → Int32} {n : Nat} {e : Nat × Nat} (hd : 3 ≤ d) (hq4 : va_rf (mR m 142 4) = .ref q) (hX : RX B n (.inl e) D K) (hQ : ∀ D1 K1, FY D D1 → RX B n (.inl e) D1 K1 → Q none (pp m 142 3 D1 K1 q 29 E L)) : Jj sc d 0 0 (mth 228) (pg P228 2).1 [some (.ref 142), some (.int (nI 0))] [] (pp m 142 3 D K q 29 E L) 0 0 Q := by
  refine J_w z228 (i := 2) (by decide) 102 ?_
  refine And.intro (fun cz3 => ?_) (fun cz3 => False.elim (absurd cz3 (by decide)))
  refine And.intro (Wdo_142 hW) ?_
  rw [pp_10 (x := 142) (by decide)]
  refine And.intro (fun cz14 => ?_) (fun cz14 => ?_)
  · -- 14 taken: D 0 9 = nI 1
    rw [hX.2.1] at cz14
    exact absurd cz14 (by decide)
  · -- 14 not: ¬ D 0 9 = nI 1
    refine And.intro ⟨by omega, Nat.le_of_ble_eq_true rfl, Nat.le_refl _, Nat.le_refl _⟩ (And.intro (Wdo_142 hW) ?_)
    refine X212 (f := 1) hW hN hdq hX (fun D17z hX17 hy17 => ?_)
    change RX B n (.inl e) D17z K at hX17
    · -- a way behind the call
      refine And.intro (Wdo_142 hW) (Exists.intro _ (And.intro hq4 ?_))
      refine And.intro (NWo_0 hN) ?_
      rw [pp_20 (y := q) (by omega) (by decide)]
      refine And.intro (fun cz21 => ?_) (fun cz21 => ?_)
      · -- 21 taken: E 0 0 = 0
        refine And.intro ⟨by omega, Nat.le_of_ble_eq_true rfl, Nat.le_refl _, Nat.le_refl _⟩ (And.intro (Wdo_142 hW) ?_)
        refine X212 (f := 6) hW hN hdq hX17 (fun D39z hX39 hy39 => ?_)
        change RX B n (.inl e) D39z K at hX39
        · -- a way behind the call
          refine And.intro ⟨rfl, rfl, Nat.le_refl _, Nat.le_refl _⟩ ?_
          exact hQ _ _ (FY_t hy17 hy39) hX39
      · -- 21 not: ¬ E 0 0 = 0
        refine And.intro (Wdo_142 hW) (Exists.intro _ (And.intro hq4 ?_))
        refine And.intro (NWo_0 hN) ?_
        rw [pp_20 (y := q) (by omega) (by decide)]
        refine And.intro (Wdo_142 hW) (Exists.intro _ (And.intro hq4 ?_))
        refine And.intro (NWo_0 hN) ?_
        rw [pp_20 (y := q) (by omega) (by decide)]
        refine And.intro (fun cz28 => ?_) (fun cz28 => ?_)
        · -- 28 taken: E 0 2 < E 0 1
          refine And.intro ⟨by omega, Nat.le_of_ble_eq_true rfl, Nat.le_refl _, Nat.le_refl _⟩ (And.intro (Wdo_142 hW) ?_)
          refine X212 (f := 6) hW hN hdq hX17 (fun D39z hX39 hy39 => ?_)
          change RX B n (.inl e) D39z K at hX39
          · -- a way behind the call
            refine And.intro ⟨rfl, rfl, Nat.le_refl _, Nat.le_refl _⟩ ?_
            exact hQ _ _ (FY_t hy17 hy39) hX39
        · -- 28 not: ¬ E 0 2 < E 0 1
          refine And.intro (Wdo_142 hW) (Exists.intro _ (And.intro hq4 ?_))
          refine And.intro (NWo_0 hN) ?_
          rw [pp_20 (y := q) (by omega) (by decide)]
          refine And.intro (fun cz32 => ?_) (fun cz32 => ?_)
          · -- 32 taken: E 0 5 = 0
            refine And.intro ⟨by omega, Nat.le_of_ble_eq_true rfl, Nat.le_refl _, Nat.le_refl _⟩ (And.intro (Wdo_142 hW) ?_)
            refine X212 (f := 6) hW hN hdq hX17 (fun D39z hX39 hy39 => ?_)
            change RX B n (.inl e) D39z K at hX39
            · -- a way behind the call
              refine And.intro ⟨rfl, rfl, Nat.le_refl _, Nat.le_refl _⟩ ?_
              exact hQ _ _ (FY_t hy17 hy39) hX39
          · -- 32 not: ¬ E 0 5 = 0
            refine And.intro (Wdo_142 hW) (Exists.intro _ (And.intro hq4 ?_))
            refine And.intro (NWo_0 hN) ?_
            rw [pp_20 (y := q) (by omega) (by decide)]
            refine And.intro (fun cz36 => ?_) (fun cz36 => ?_)
            · -- 36 taken: ¬ E 0 6 = 0
              refine And.intro ⟨rfl, rfl, Nat.le_refl _, Nat.le_refl _⟩ ?_
              exact hQ _ _ hy17 hX17
            · -- 36 not: E 0 6 = 0
              refine And.intro ⟨by omega, Nat.le_of_ble_eq_true rfl, Nat.le_refl _, Nat.le_refl _⟩ (And.intro (Wdo_142 hW) ?_)
              refine X212 (f := 6) hW hN hdq hX17 (fun D39z hX39 hy39 => ?_)
              change RX B n (.inl e) D39z K at hX39
              · -- a way behind the call
                refine And.intro ⟨rfl, rfl, Nat.le_refl _, Nat.le_refl _⟩ ?_
                exact hQ _ _ (FY_t hy17 hy39) hX39
theorem sq_1 {B : Nat → Int32} {n i : Nat} {D : Nat → Nat → Int32} (h : D 0 9 = nI (sqF (kiF B n i))) : D 0 9 = nI 1 ↔ kiF B n i = 0 := by
  have hb := ki_b (B := B) (n := n) (i := i)
  have h1 : sqF (kiF B n i) ≤ 4 ∧ (sqF (kiF B n i) = 1 ↔ kiF B n i = 0) := by
    unfold sqF
    split
    · omega
    · split <;> omega
  rw [h]
  exact ⟨fun z => h1.2.mp ((nI_eq (by omega) (by decide)).mp z), fun z => congrArg nI (h1.2.mpr z)⟩
theorem lall_o {sc : Nat × (Nat → Int32)} {d : Nat} {m : Mm} {Q : Option Value → Mm → Prop} {q : Nat} {E : Nat → Nat → Int32} {L : Nat → Nat → Int64} (hW : Wd m.2.2) (hN : NW m.2.2 q) (hdq : q + 29 ≤ 142 ∨ 142 + 3 ≤ q) {D : Nat → Nat → Int32} {K : Nat → Nat → Int64} {B : Nat → Int32} {n i : Nat} (hd : 3 ≤ d) (hq4 : va_rf (mR m 142 4) = .ref q) (hX : RX B n (.inr i) D K) (hF : ∀ D1 K1, FY D D1 → ¬ kiF B n i = 0 → RX B n (.inl (1, plF B n i)) D1 K1 → Q none (pp m 142 3 D1 K1 q 29 E L)) (h6 : ∀ D1 K1, FY D D1 → kiF B n i = 0 → (E 0 0 = 0 ∨ E 0 2 < E 0 1 ∨ E 0 5 = 0 ∨ E 0 6 = 0) → RX B n (.inl (6, plF B n i)) D1 K1 → Q none (pp m 142 3 D1 K1 q 29 E L)) (hO : kiF B n i = 0 → ¬ (E 0 0 = 0 ∨ E 0 2 < E 0 1 ∨ E 0 5 = 0 ∨ E 0 6 = 0) → Q none (pp m 142 3 D K q 29 E L)) : Jj sc d 0 0 (mth 228) (pg P228 2).1 [some (.ref 142), some (.int (nI 0))] [] (pp m 142 3 D K q 29 E L) 0 0 Q := by
  refine J_w z228 (i := 2) (by decide) 102 ?_
  refine And.intro (fun cz3 => ?_) (fun cz3 => False.elim (absurd cz3 (by decide)))
  refine And.intro (Wdo_142 hW) ?_
  rw [pp_10 (x := 142) (by decide)]
  refine And.intro (fun cz14 => ?_) (fun cz14 => ?_)
  · -- 14 taken: D 0 9 = nI 1
    refine And.intro (Wdo_142 hW) (Exists.intro _ (And.intro hq4 ?_))
    refine And.intro (NWo_0 hN) ?_
    rw [pp_20 (y := q) (by omega) (by decide)]
    refine And.intro (fun cz21 => ?_) (fun cz21 => ?_)
    · -- 21 taken: E 0 0 = 0
      refine And.intro ⟨by omega, Nat.le_of_ble_eq_true rfl, Nat.le_refl _, Nat.le_refl _⟩ (And.intro (Wdo_142 hW) ?_)
      refine X212 (f := 6) hW hN hdq hX (fun D39z hX39 hy39 => ?_)
      change RX B n (.inl (6, plF B n i)) D39z K at hX39
      · -- a way behind the call
        refine And.intro ⟨rfl, rfl, Nat.le_refl _, Nat.le_refl _⟩ ?_
        exact h6 _ _ hy39 ((sq_1 hX.2.1.2.1).mp cz14) (Or.inl cz21) hX39
    · -- 21 not: ¬ E 0 0 = 0
      refine And.intro (Wdo_142 hW) (Exists.intro _ (And.intro hq4 ?_))
      refine And.intro (NWo_0 hN) ?_
      rw [pp_20 (y := q) (by omega) (by decide)]
      refine And.intro (Wdo_142 hW) (Exists.intro _ (And.intro hq4 ?_))
      refine And.intro (NWo_0 hN) ?_
      rw [pp_20 (y := q) (by omega) (by decide)]
      refine And.intro (fun cz28 => ?_) (fun cz28 => ?_)
      · -- 28 taken: E 0 2 < E 0 1
        refine And.intro ⟨by omega, Nat.le_of_ble_eq_true rfl, Nat.le_refl _, Nat.le_refl _⟩ (And.intro (Wdo_142 hW) ?_)
        refine X212 (f := 6) hW hN hdq hX (fun D39z hX39 hy39 => ?_)
        change RX B n (.inl (6, plF B n i)) D39z K at hX39
        · -- a way behind the call
          refine And.intro ⟨rfl, rfl, Nat.le_refl _, Nat.le_refl _⟩ ?_
          exact h6 _ _ hy39 ((sq_1 hX.2.1.2.1).mp cz14) (Or.inr (Or.inl cz28)) hX39
      · -- 28 not: ¬ E 0 2 < E 0 1
        refine And.intro (Wdo_142 hW) (Exists.intro _ (And.intro hq4 ?_))
        refine And.intro (NWo_0 hN) ?_
        rw [pp_20 (y := q) (by omega) (by decide)]
        refine And.intro (fun cz32 => ?_) (fun cz32 => ?_)
        · -- 32 taken: E 0 5 = 0
          refine And.intro ⟨by omega, Nat.le_of_ble_eq_true rfl, Nat.le_refl _, Nat.le_refl _⟩ (And.intro (Wdo_142 hW) ?_)
          refine X212 (f := 6) hW hN hdq hX (fun D39z hX39 hy39 => ?_)
          change RX B n (.inl (6, plF B n i)) D39z K at hX39
          · -- a way behind the call
            refine And.intro ⟨rfl, rfl, Nat.le_refl _, Nat.le_refl _⟩ ?_
            exact h6 _ _ hy39 ((sq_1 hX.2.1.2.1).mp cz14) (Or.inr (Or.inr (Or.inl cz32))) hX39
        · -- 32 not: ¬ E 0 5 = 0
          refine And.intro (Wdo_142 hW) (Exists.intro _ (And.intro hq4 ?_))
          refine And.intro (NWo_0 hN) ?_
          rw [pp_20 (y := q) (by omega) (by decide)]
          refine And.intro (fun cz36 => ?_) (fun cz36 => ?_)
          · -- 36 taken: ¬ E 0 6 = 0
            refine And.intro ⟨rfl, rfl, Nat.le_refl _, Nat.le_refl _⟩ ?_
            exact hO ((sq_1 hX.2.1.2.1).mp cz14) (fun z => z.elim cz21 (fun z => z.elim (Int32.not_lt.mpr (Int32.not_lt.mp cz28)) (fun z => z.elim cz32 cz36)))
          · -- 36 not: E 0 6 = 0
            refine And.intro ⟨by omega, Nat.le_of_ble_eq_true rfl, Nat.le_refl _, Nat.le_refl _⟩ (And.intro (Wdo_142 hW) ?_)
            refine X212 (f := 6) hW hN hdq hX (fun D39z hX39 hy39 => ?_)
            change RX B n (.inl (6, plF B n i)) D39z K at hX39
            · -- a way behind the call
              refine And.intro ⟨rfl, rfl, Nat.le_refl _, Nat.le_refl _⟩ ?_
              exact h6 _ _ hy39 ((sq_1 hX.2.1.2.1).mp cz14) (Or.inr (Or.inr (Or.inr cz36))) hX39
  · -- 14 not: ¬ D 0 9 = nI 1
    refine And.intro ⟨by omega, Nat.le_of_ble_eq_true rfl, Nat.le_refl _, Nat.le_refl _⟩ (And.intro (Wdo_142 hW) ?_)
    refine X212 (f := 1) hW hN hdq hX (fun D17z hX17 hy17 => ?_)
    change RX B n (.inl (1, plF B n i)) D17z K at hX17
    · -- a way behind the call
      refine And.intro (Wdo_142 hW) (Exists.intro _ (And.intro hq4 ?_))
      refine And.intro (NWo_0 hN) ?_
      rw [pp_20 (y := q) (by omega) (by decide)]
      refine And.intro (fun cz21 => ?_) (fun cz21 => ?_)
      · -- 21 taken: E 0 0 = 0
        refine And.intro ⟨by omega, Nat.le_of_ble_eq_true rfl, Nat.le_refl _, Nat.le_refl _⟩ (And.intro (Wdo_142 hW) ?_)
        refine X212 (f := 6) hW hN hdq hX17 (fun D39z hX39 hy39 => ?_)
        change RX B n (.inl (1, plF B n i)) D39z K at hX39
        · -- a way behind the call
          refine And.intro ⟨rfl, rfl, Nat.le_refl _, Nat.le_refl _⟩ ?_
          exact hF _ _ (FY_t hy17 hy39) (fun z => absurd ((sq_1 hX.2.1.2.1).mpr z) cz14) hX39
      · -- 21 not: ¬ E 0 0 = 0
        refine And.intro (Wdo_142 hW) (Exists.intro _ (And.intro hq4 ?_))
        refine And.intro (NWo_0 hN) ?_
        rw [pp_20 (y := q) (by omega) (by decide)]
        refine And.intro (Wdo_142 hW) (Exists.intro _ (And.intro hq4 ?_))
        refine And.intro (NWo_0 hN) ?_
        rw [pp_20 (y := q) (by omega) (by decide)]
        refine And.intro (fun cz28 => ?_) (fun cz28 => ?_)
        · -- 28 taken: E 0 2 < E 0 1
          refine And.intro ⟨by omega, Nat.le_of_ble_eq_true rfl, Nat.le_refl _, Nat.le_refl _⟩ (And.intro (Wdo_142 hW) ?_)
          refine X212 (f := 6) hW hN hdq hX17 (fun D39z hX39 hy39 => ?_)
          change RX B n (.inl (1, plF B n i)) D39z K at hX39
          · -- a way behind the call
            refine And.intro ⟨rfl, rfl, Nat.le_refl _, Nat.le_refl _⟩ ?_
            exact hF _ _ (FY_t hy17 hy39) (fun z => absurd ((sq_1 hX.2.1.2.1).mpr z) cz14) hX39
        · -- 28 not: ¬ E 0 2 < E 0 1
          refine And.intro (Wdo_142 hW) (Exists.intro _ (And.intro hq4 ?_))
          refine And.intro (NWo_0 hN) ?_
          rw [pp_20 (y := q) (by omega) (by decide)]
          refine And.intro (fun cz32 => ?_) (fun cz32 => ?_)
          · -- 32 taken: E 0 5 = 0
            refine And.intro ⟨by omega, Nat.le_of_ble_eq_true rfl, Nat.le_refl _, Nat.le_refl _⟩ (And.intro (Wdo_142 hW) ?_)
            refine X212 (f := 6) hW hN hdq hX17 (fun D39z hX39 hy39 => ?_)
            change RX B n (.inl (1, plF B n i)) D39z K at hX39
            · -- a way behind the call
              refine And.intro ⟨rfl, rfl, Nat.le_refl _, Nat.le_refl _⟩ ?_
              exact hF _ _ (FY_t hy17 hy39) (fun z => absurd ((sq_1 hX.2.1.2.1).mpr z) cz14) hX39
          · -- 32 not: ¬ E 0 5 = 0
            refine And.intro (Wdo_142 hW) (Exists.intro _ (And.intro hq4 ?_))
            refine And.intro (NWo_0 hN) ?_
            rw [pp_20 (y := q) (by omega) (by decide)]
            refine And.intro (fun cz36 => ?_) (fun cz36 => ?_)
            · -- 36 taken: ¬ E 0 6 = 0
              refine And.intro ⟨rfl, rfl, Nat.le_refl _, Nat.le_refl _⟩ ?_
              exact hF _ _ hy17 (fun z => absurd ((sq_1 hX.2.1.2.1).mpr z) cz14) hX17
            · -- 36 not: E 0 6 = 0
              refine And.intro ⟨by omega, Nat.le_of_ble_eq_true rfl, Nat.le_refl _, Nat.le_refl _⟩ (And.intro (Wdo_142 hW) ?_)
              refine X212 (f := 6) hW hN hdq hX17 (fun D39z hX39 hy39 => ?_)
              change RX B n (.inl (1, plF B n i)) D39z K at hX39
              · -- a way behind the call
                refine And.intro ⟨rfl, rfl, Nat.le_refl _, Nat.le_refl _⟩ ?_
                exact hF _ _ (FY_t hy17 hy39) (fun z => absurd ((sq_1 hX.2.1.2.1).mpr z) cz14) hX39
theorem ol_p {B : Nat → Int32} {n i s j : Nat} {T T1 : NT} {Λ Λ1 : Nat → Nat → Int32} (h : olF T Λ B n i = .inr (s, T1, Λ1, j)) (hI : LRI T Λ) : 0 < nv (bump Λ1 s 1 0) := by
  unfold olF at h
  obtain ⟨⟨a, p⟩, h1, h⟩ := rb_r h
  obtain ⟨b, h2, h⟩ := rb_r h
  have e := Sum.inr.inj h
  have ez1 : a = s := congrArg Prod.fst e
  have ez2 : b = (T1, Λ1, j) := congrArg Prod.snd e
  subst ez1
  rw [ez2] at h2
  have ho := opF_c hI h1
  have eq1 := lkv_N h2 ho.1
  by_cases e : a = 0
  · subst e
    show 0 < nv (upd (Λ1 1) 0 (Λ1 1 0 + nI 1) 0)
    rw [upd_e, eq1, (hI.1 0 (by decide)).1, ho.2.2.2.2.2.1 rfl]
    decide
  · show 0 < nv (upd (Λ1 1) a (Λ1 1 a + nI 1) 0)
    rw [upd_o (fun z => e z.symm), eq1]
    exact ho.2.2.2.2.1 e
theorem hw_2 {T : NT} {Λ : Nat → Nat → Int32} (hI : LRI T Λ) (hK : LKp Λ) (h : 0 < nv (Λ 1 0)) : 2 ≤ nv (Λ 0 0) := hK.2 h
theorem lall_a {sc : Nat × (Nat → Int32)} {d : Nat} {m : Mm} {Q : Option Value → Mm → Prop} {q : Nat} (hW : Wd m.2.2) (hN : NW m.2.2 q) (hdq : q + 29 ≤ 142 ∨ 142 + 3 ≤ q) {B : Nat → Int32} {n : Nat} (hq4 : va_rf (mR m 142 4) = .ref q) (hd : 15 ≤ d)  : ∀ (r : Nat) {i : Nat} {D E : Nat → Nat → Int32} {K L : Nat → Nat → Int64} {T : NT} {Λ : Nat → Nat → Int32}, RX B n (.inr i) D K → LQ Λ E → NR T E L → LRI T Λ → LKp Λ → n + 1 ≤ r + i → (∀ D1 K1 E1 L1, FY D D1 → raPt B n (rdF B n r T Λ i) D1 K1 E1 → Q none (pp m 142 3 D1 K1 q 29 E1 L1)) → Jj sc d 0 0 (mth 228) (pg P228 2).1 [some (.ref 142), some (.int (nI 1))] [] (pp m 142 3 D K q 29 E L) 0 0 Q := by
  intro r
  induction r with
  | zero => intro i D E K L T Λ hX hLQ hNR hI hK hr hQ; have := hX.2.2.1; omega
  | succ r ih =>
    intro i D E K L T Λ hX hLQ hNR hI hK hr hQ
    refine J_w z228 (i := 2) (by decide) 102 ?_
    refine And.intro (fun cz3 => False.elim (absurd cz3 (by decide))) (fun cz3 => ?_)
    refine And.intro ⟨by omega, Nat.le_of_ble_eq_true rfl, Nat.le_refl _, Nat.le_refl _⟩ (And.intro (Wdo_142 hW) ?_)
    refine L229 hW hN hdq hq4 hLQ hNR hI hK hX.1 hX.2.1 hX.2.2.1 hX.2.2.2 (by omega) (fun D1 K1 E1 L1 hy1 hp1 => ?_)
    rcases eo : olF T Λ B n i with er | ⟨so, T1, Λ1, j1⟩
    · -- a way behind the call
      rw [eo] at hp1
      change RX B n (.inl er) D1 K1 at hp1
      refine And.intro ⟨by omega, Nat.le_of_ble_eq_true rfl, Nat.le_refl _, Nat.le_refl _⟩ (And.intro (Wdo_142 hW) ?_)
      refine O214 hW hN hdq hp1 ?_
      show Jj sc d 0 0 (mth 228) (pg P228 2).1 [some (.ref 142), some (.int (nI 0))] [] (pp m 142 3 D1 K1 q 29 E1 L1) 0 0 Q
      exact lall_f hW hN hdq (by omega) hq4 hp1 (fun D2 K2 hy2 hX2 => hQ _ _ _ _ (FY_t hy1 hy2) (by rw [rd_f eo]; exact hX2))
    · -- a way behind the call
      rw [eo] at hp1
      obtain ⟨hX1, hNR1, hLQ1⟩ := hp1
      change RX B n (.inr j1) D1 K1 at hX1
      obtain ⟨hI1, hK1, hj1⟩ := ol_k hI eo
      have hrd := rd_o (r := r) eo
      refine And.intro ⟨by omega, Nat.le_of_ble_eq_true rfl, Nat.le_refl _, Nat.le_refl _⟩ (And.intro (Wdo_142 hW) ?_)
      refine L214 hW hN hdq hX1.1 hX1.2.1 hX1.2.2.1 hX1.2.2.2 (by omega) (fun D2 K2 es hX2 hy2 => ?_) (fun es => ?_)
      · -- a way behind the call
        show Jj sc d 0 0 (mth 228) (pg P228 2).1 [some (.ref 142), some (.int (nI 1))] [] (pp m 142 3 D2 K2 q 29 E1 L1) 0 0 Q
        refine ih hX2 hLQ1 hNR1 hI1 hK1 (by have := nxF_ge (B := B) (n := n) (i := j1); omega) (fun D3 K3 E3 L3 hy3 hp3 => hQ D3 K3 E3 L3 (FY_t hy1 (FY_t hy2 hy3)) ?_)
        rw [hrd, if_neg (fun z => absurd (z.symm.trans (ps_59 es)) (by decide)), es]
        exact hp3
      · -- a way behind the call
        show Jj sc d 0 0 (mth 228) (pg P228 2).1 [some (.ref 142), some (.int (nI 0))] [] (pp m 142 3 D1 K1 q 29 E1 L1) 0 0 Q
        have hw2 : 2 ≤ nv (bump Λ1 so 0 0) := hw_2 hI1 hK1 (ol_p eo hI)
        have hla := la_q hI1 hLQ1.1 hw2
        refine lall_o hW hN hdq (by omega) hq4 hX1 (fun D2 K2 hy2 hk2 hX2 => hQ _ _ _ _ (FY_t hy1 hy2) ?_) (fun D2 K2 hy2 hk2 hc hX2 => hQ _ _ _ _ (FY_t hy1 hy2) ?_) (fun hk2 hc => hQ _ _ _ _ hy1 ?_)
        · rw [hrd, if_neg hk2, es]
          exact hX2
        · rw [hrd, if_pos hk2, if_pos (hla.mpr hc)]
          exact hX2
        · rw [hrd, if_pos hk2, if_neg (fun z => hc (hla.mp z))]
          exact ⟨⟨_, hX1⟩, hLQ1, _, hI1⟩
theorem L228 {d : Nat} {m : Mm} {Q : Option Value → Mm → Prop} {q : Nat} (hW : Wd m.2.2) (hN : NW m.2.2 q) (hdq : q + 29 ≤ 142 ∨ 142 + 3 ≤ q) {B : Nat → Int32} {n : Nat} (hq4 : va_rf (mR m 142 4) = .ref q) (hd : 15 ≤ d) {i r : Nat} {D E : Nat → Nat → Int32} {K L : Nat → Nat → Int64} {T : NT} {Λ : Nat → Nat → Int32} (hX : RX B n (.inr i) D K) (hLQ : LQ Λ E) (hNR : NR T E L) (hI : LRI T Λ) (hK : LKp Λ) (hr : n + 1 ≤ r + i) (hQ : (∀ D1 K1 E1 L1, FY D D1 → raPt B n (rdF B n r T Λ i) D1 K1 E1 → Q none (pp m 142 3 D1 K1 q 29 E1 L1))) : Cc d 0 0 228 [.ref 142] (pp m 142 3 D K q 29 E L) Q := by
  refine ent (n := 102) z228 (by decide) rfl (by decide) (Nat.le_of_ble_eq_true rfl) (fun sc => ?_)
  show Jj sc d 0 0 (mth 228) (pg P228 2).1 [some (.ref 142), some (.int (nI 1))] [] (pp m 142 3 D K q 29 E L) 0 0 Q
  exact lall_a hW hN hdq hq4 hd r hX hLQ hNR hI hK hr hQ
