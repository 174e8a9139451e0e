theorem L214 {d : Nat} {m : Mm} {Q : Option Value → Mm → Prop} {q : Nat} {E : Nat → Nat → Int32} {L : Nat → Nat → Int64} (hW : Wd m.2.2) (hN : NW m.2.2 q) (hdq : q + 29 ≤ 142 ∨ 142 + 3 ≤ q) {D : Nat → Nat → Int32} {K : Nat → Nat → Int64} {w : Int32} {B : Nat → Int32} {n i : Nat} (hR : RBy B n D) (hT : TR B n i D K) (hi : i ≤ n) (h14 : D 0 14 = nI 0) (hd : 6 ≤ d) (hY : ∀ D1 K1, pSign w B n i = .inr (nxF B n i) → RX B n (.inr (nxF B n i)) D1 K1 → FY D D1 → Q (some (.int (nI 1))) (pp m 142 3 D1 K1 q 29 E L)) (hN2 : pSign w B n i = .inl (1, plF B n i) → Q (some (.int (nI 0))) (pp m 142 3 D K q 29 E L)) : Cc d 0 0 214 [.ref 142, .int w] (pp m 142 3 D K q 29 E L) Q := by
  refine ent (n := 56) z214 (by decide) rfl (by decide) (Nat.le_of_ble_eq_true rfl) (fun sc => ?_)
  refine And.intro (Wdo_142 hW) ?_
  rw [pp_10 (x := 142) (by decide)]
  refine And.intro (fun cz3 => ?_) (fun cz3 => ?_)
  · -- 3 taken: ¬ D 0 9 = nI 4
    refine And.intro (fun cz13 => ?_) (fun cz13 => False.elim (absurd cz13 (by decide)))
    refine And.intro ⟨rfl, Or.inl rfl, Nat.le_refl _, Nat.le_refl _⟩ ?_
    exact hN2 (if_neg (fun z => cz3 ((sq_q hT.2.1 (by decide) (by decide)).mpr z.1)))
  · -- 3 not: D 0 9 = nI 4
    have kk4 := (sq_q (c := 4) hT.2.1 (by decide) (by decide)).mp cz3
    refine And.intro (Wdo_142 hW) ?_
    rw [pp_10 (x := 142) (by decide)]
    refine And.intro (fun cz7 => ?_) (fun cz7 => ?_)
    · -- 7 taken: ¬ D 0 11 = w
      refine And.intro (fun cz13 => ?_) (fun cz13 => False.elim (absurd cz13 (by decide)))
      refine And.intro ⟨rfl, Or.inl rfl, Nat.le_refl _, Nat.le_refl _⟩ ?_
      rw [hT.2.2.2.2.2 kk4] at cz7
      exact hN2 (if_neg (fun z => cz7 z.2))
    · -- 7 not: D 0 11 = w
      refine And.intro (fun cz13 => False.elim (absurd cz13 (by decide))) (fun cz13 => ?_)
      refine And.intro ⟨by omega, Nat.le_of_ble_eq_true rfl, Nat.le_refl _, Nat.le_refl _⟩ (And.intro (Wdo_142 hW) ?_)
      have h8 : D 0 8 = nI (nxF B n i) := hT.2.2.1 (by omega)
      refine D211 (B := B) (n := n) (i := nxF B n i) hW hN hdq (by omega) hR (nxF_le hi) (fun D1 K1 uT uX => ?_) h8 (sq_5 hT.2.1)
      · -- a way behind the call
        refine And.intro ⟨rfl, Or.inr rfl, Nat.le_refl _, Nat.le_refl _⟩ ?_
        rw [hT.2.2.2.2.2 kk4] at cz7
        exact hY _ _ (if_pos ⟨kk4, cz7⟩) (RX_l hR uX uT (nxF_le hi) h14) (FY_x uX)
theorem O214 {d : Nat} {m : Mm} {Q : Option Value → Mm → Prop} {q : Nat} {E : Nat → Nat → Int32} {L : Nat → Nat → Int64} (hW : Wd m.2.2) (hN : NW m.2.2 q) (hdq : q + 29 ≤ 142 ∨ 142 + 3 ≤ q) {D : Nat → Nat → Int32} {K : Nat → Nat → Int64} {w : Int32} {B : Nat → Int32} {n : Nat} {e : Nat × Nat} (hX : RX B n (.inl e) D K) (hQ : Q (some (.int (nI 0))) (pp m 142 3 D K q 29 E L)) : Cc d 0 0 214 [.ref 142, .int w] (pp m 142 3 D K q 29 E L) Q := by
  refine ent (n := 56) z214 (by decide) rfl (by decide) (Nat.le_of_ble_eq_true rfl) (fun sc => ?_)
  refine And.intro (Wdo_142 hW) ?_
  rw [pp_10 (x := 142) (by decide)]
  refine And.intro (fun cz3 => ?_) (fun cz3 => ?_)
  · -- 3 taken: ¬ D 0 9 = nI 4
    refine And.intro (fun cz13 => ?_) (fun cz13 => False.elim (absurd cz13 (by decide)))
    refine And.intro ⟨rfl, Or.inl rfl, Nat.le_refl _, Nat.le_refl _⟩ ?_
    exact hQ
  · -- 3 not: D 0 9 = nI 4
    rw [hX.2.1] at cz3; exact absurd cz3 (by decide)
