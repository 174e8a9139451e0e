def FY (D D1 : Nat → Nat → Int32) : Prop := D1 1 = D 1 ∧ ∀ k, k < 8 ∨ 15 < k → D1 0 k = D 0 k
theorem FY_x {D D1 : Nat → Nat → Int32} (h : FX D D1) : FY D D1 := ⟨h.1, fun k hk => h.2 k (by omega)⟩
theorem FY_t {D D1 D2 : Nat → Nat → Int32} (h : FY D D1) (g : FY D1 D2) : FY D D2 := ⟨g.1.trans h.1, fun k hk => (g.2 k hk).trans (h.2 k hk)⟩
theorem FY_r {D : Nat → Nat → Int32} : FY D D := ⟨rfl, fun _ _ => rfl⟩
def flD (D : Nat → Nat → Int32) (f : Int32) : Nat → Nat → Int32 := ud (ud (ud D 0 14 f) 0 15 (D 0 10)) 0 9 (nI 5)
theorem FY_f {D : Nat → Nat → Int32} {f : Int32} : FY D (flD D f) := by
  refine ⟨rfl, fun k hk => ?_⟩
  show upd (upd (upd (D 0) 14 _) 15 _) 9 _ k = D 0 k
  rw [upd_o (by omega), upd_o (by omega), upd_o (by omega)]
/-- the reference stands at X: a place, or a fault -/
def RX (B : Nat → Int32) (n : Nat) (X : Rs Nat) (D : Nat → Nat → Int32) (K : Nat → Nat → Int64) : Prop := RBy B n D ∧ match X with
  | .inl e => D 0 9 = nI 5 ∧ D 0 14 = nI e.1 ∧ D 0 15 = nI e.2
  | .inr i => TR B n i D K ∧ i ≤ n ∧ D 0 14 = nI 0
theorem RX_f {B : Nat → Int32} {n i f : Nat} {D : Nat → Nat → Int32} {K : Nat → Nat → Int64} (hR : RBy B n D) (hT : TR B n i D K) : RX B n (.inl (f, plF B n i)) (flD D (nI f)) K := ⟨hR, rfl, rfl, hT.1⟩
theorem RX_l {B : Nat → Int32} {n i : Nat} {D D1 : Nat → Nat → Int32} {K1 : Nat → Nat → Int64} (hR : RBy B n D) (hx : FX D D1) (hT : TR B n i D1 K1) (hi : i ≤ n) (h : D 0 14 = nI 0) : RX B n (.inr i) D1 K1 := ⟨RBy_x hR hx, hT, hi, (hx.2 14 (by omega)).trans h⟩
theorem sq_q {B : Nat → Int32} {n i c : Nat} {D : Nat → Nat → Int32} (h : D 0 9 = nI (sqF (kiF B n i))) (hc : 2 ≤ c) (hc5 : c ≤ 5) : D 0 9 = nI c ↔ kiF B n i = c := by
  have hb := ki_b (B := B) (n := n) (i := i)
  have h1 : sqF (kiF B n i) ≤ 4 := by
    unfold sqF
    split
    · omega
    · split <;> omega
  rw [h, nI_eq (by omega) (by omega)]
  unfold sqF
  constructor
  · intro z
    split at z
    · omega
    · split at z <;> omega
  · intro z
    rw [if_neg (by omega), if_neg (by omega), z]
theorem sq_5 {B : Nat → Int32} {n i : Nat} {D : Nat → Nat → Int32} (h : D 0 9 = nI (sqF (kiF B n i))) : ¬ D 0 9 = nI 5 := fun z => by
  have := (sq_q h (by decide) (by decide)).mp z
  have hb := ki_b (B := B) (n := n) (i := i)
  omega
def woC (l : List Int32) (j : Nat) : Int64 := fo (fun i y => lN 32 * y + ((l.getD i 0 &&& 255) - nI 97 + nI 1).toInt64) (lN 0) j
theorem woC_s {l : List Int32} {j : Nat} : woC l (j + 1) = lN 32 * woC l j + ((l.getD j 0 &&& 255) - nI 97 + nI 1).toInt64 := fo_s
theorem wo_21 : woC (sBy 21) (sBy 21).length = lN 394692 := by decide +kernel
theorem wo_22 : woC (sBy 22) (sBy 22).length = lN 763013 := by decide +kernel
theorem wo_23 : woC (sBy 23) (sBy 23).length = lN 271592 := by decide +kernel
theorem wo_24 : woC (sBy 24) (sBy 24).length = lN 12343 := by decide +kernel
theorem wo_25 : woC (sBy 25) (sBy 25).length = lN 6605428 := by decide +kernel
theorem wo_26 : woC (sBy 26) (sBy 26).length = lN 238804 := by decide +kernel
theorem wo_27 : woC (sBy 27) (sBy 27).length = lN 464036 := by decide +kernel
theorem wo_28 : woC (sBy 28) (sBy 28).length = lN 18935 := by decide +kernel
theorem wo_29 : woC (sBy 29) (sBy 29).length = lN 21243335 := by decide +kernel
theorem wo_30 : woC (sBy 30) (sBy 30).length = lN 414827 := by decide +kernel
theorem wo_31 : woC (sBy 31) (sBy 31).length = lN 7652 := by decide +kernel
theorem wo_32 : woC (sBy 32) (sBy 32).length = lN 8892563 := by decide +kernel
theorem wo_33 : woC (sBy 33) (sBy 33).length = lN 20101267 := by decide +kernel
theorem wo_34 : woC (sBy 34) (sBy 34).length = lN 67155 := by decide +kernel
theorem wo_35 : woC (sBy 35) (sBy 35).length = lN 555803826 := by decide +kernel
theorem wo_36 : woC (sBy 36) (sBy 36).length = lN 3540584 := by decide +kernel
theorem wo_37 : woC (sBy 37) (sBy 37).length = lN 23937287397 := by decide +kernel
theorem wo_38 : woC (sBy 38) (sBy 38).length = lN 20452748 := by decide +kernel
theorem wo_39 : woC (sBy 39) (sBy 39).length = lN 19511 := by decide +kernel
theorem wo_40 : woC (sBy 40) (sBy 40).length = lN 1497 := by decide +kernel
theorem wo_41 : woC (sBy 41) (sBy 41).length = lN 17171758 := by decide +kernel
theorem wo_42 : woC (sBy 42) (sBy 42).length = lN 17383076 := by decide +kernel
theorem wo_43 : woC (sBy 43) (sBy 43).length = lN 10906648243 := by decide +kernel
theorem wo_44 : woC (sBy 44) (sBy 44).length = lN 53875888 := by decide +kernel
theorem wo_45 : woC (sBy 45) (sBy 45).length = lN 17376357 := by decide +kernel
theorem wo_46 : woC (sBy 46) (sBy 46).length = lN 643389619 := by decide +kernel
theorem wo_47 : woC (sBy 47) (sBy 47).length = lN 215533 := by decide +kernel
theorem wo_48 : woC (sBy 48) (sBy 48).length = lN 655 := by decide +kernel
theorem wo_49 : woC (sBy 49) (sBy 49).length = lN 52 := by decide +kernel
theorem wo_50 : woC (sBy 50) (sBy 50).length = lN 278194 := by decide +kernel
theorem wo_51 : woC (sBy 51) (sBy 51).length = lN 658557587 := by decide +kernel
theorem wo_52 : woC (sBy 52) (sBy 52).length = lN 19965396 := by decide +kernel
theorem wo_53 : woC (sBy 53) (sBy 53).length = lN 37011 := by decide +kernel
theorem wo_54 : woC (sBy 54) (sBy 54).length = lN 21015731 := by decide +kernel
theorem wo_55 : woC (sBy 55) (sBy 55).length = lN 21279923 := by decide +kernel
theorem wo_56 : woC (sBy 56) (sBy 56).length = lN 645974195 := by decide +kernel
theorem wo_57 : woC (sBy 57) (sBy 57).length = lN 25779 := by decide +kernel
theorem wo_58 : woC (sBy 58) (sBy 58).length = lN 463 := by decide +kernel
theorem lq210 {sc : Nat × (Nat → Int32)} {d : Nat} {m : Mm} {Q : Option Value → Mm → Prop} {s0 : Nat} (hd : 4 ≤ d) (hs : s0 < sS.length) (hl : (sBy s0).length < 2 ^ 31) (hQ : Q (some (.long (woC (sBy s0) (sBy s0).length))) m)  : ∀ (j i : Nat), i ≤ (sBy s0).length → (sBy s0).length + 1 ≤ i + j → Jj sc d 0 0 (mth 210) (pg P210 4).1 [some (.ref (1000000 + s0)), some (.long (woC (sBy s0) i)), none, some (.int (nI i))] [] m 0 0 Q := by
  intro j
  induction j with
  | zero => intro i h1 h2; omega
  | succ j ih =>
    intro i h1 h2
    refine J_w z210 (i := 4) (by decide) 70 ?_
    refine And.intro ⟨by omega, Nat.le_of_ble_eq_true rfl, Nat.le_refl _, Nat.le_refl _⟩ (And.intro ⟨Nat.le_add_right _ _, Nat.add_lt_add_left hs _⟩ ?_)
    refine C341 hs (by omega) hl ?_
    refine And.intro (fun cz7 => ?_) (fun cz7 => ?_)
    · -- 7 taken: nI ((sBy s0).length) ≤ nI i
      have kz7 : (sBy s0).length ≤ i := kle (a := (sBy s0).length) (b := i) rfl rfl (by omega) (by omega) cz7
      refine And.intro ⟨rfl, rfl, Nat.le_refl _, Nat.le_refl _⟩ ?_
      rw [show i = (sBy s0).length by omega]
      exact hQ
    · -- 7 not: ¬ nI ((sBy s0).length) ≤ nI i
      have kz7 : i < (sBy s0).length := knle (a := (sBy s0).length) (b := i) rfl rfl (by omega) (by omega) cz7
      refine And.intro ⟨by omega, Nat.le_of_ble_eq_true rfl, Nat.le_refl _, Nat.le_refl _⟩ (And.intro ⟨Nat.le_add_right _ _, Nat.add_lt_add_left hs _⟩ ?_)
      refine C342 hs (x := i) (by omega) (by omega) hl ?_
      show Jj sc d 0 0 (mth 210) (pg P210 4).1 [some (.ref (1000000 + s0)), some (.long (((lN 32) * (woC (sBy s0) i)) + (((((sBy s0).getD i 0 &&& 255) - nI 97) + nI 1).toInt64))), none, some (.int (nI i + nI 1))] [] m 0 0 Q
      rw [show nI i + nI 1 = nI (i + 1) from by simp only [nI_add, pk_mul]]
      have z := ih (i + 1) (by omega) (by omega)
      rw [woC_s] at z
      exact z
theorem C210 {d : Nat} {m : Mm} {Q : Option Value → Mm → Prop} {s0 : Nat} (hd : 4 ≤ d) (hs : s0 < sS.length) (hl : (sBy s0).length < 2 ^ 31) (hQ : Q (some (.long (woC (sBy s0) (sBy s0).length))) m) : Cc d 0 0 210 [.ref (1000000 + s0)] m Q := by
  refine ent (n := 70) z210 (by decide) rfl (by decide) (Nat.le_of_ble_eq_true rfl) (fun sc => ?_)
  show Jj sc d 0 0 (mth 210) (pg P210 4).1 [some (.ref (1000000 + s0)), some (.long (lN 0)), none, some (.int (nI 0))] [] m 0 0 Q
  exact lq210 hd hs hl hQ ((sBy s0).length + 1) 0 (Nat.zero_le _) (by omega)
theorem D213 {d : Nat} {m : Mm} {Q : Option Value → Mm → Prop} {q : Nat} {E : Nat → Nat → Int32} {L : Nat → Nat → Int64} (hW : Wd m.2.2) (hN : NW m.2.2 q) (hdq : q + 29 ≤ 142 ∨ 142 + 3 ≤ q) {D : Nat → Nat → Int32} {K : Nat → Nat → Int64} {s0 : Nat} {w : Int64} (hs : s0 < sS.length) (hl : (sBy s0).length < 2 ^ 31) (hc : woC (sBy s0) (sBy s0).length = w) {B : Nat → Int32} {n i : Nat} (hR : RBy B n D) (hT : TR B n i D K) (hi : i ≤ n) (h14 : D 0 14 = nI 0) (hd : 5 ≤ d) (hQ : Q (some (.int (bi (kiF B n i = 2 ∧ coT B n i = w)))) (pp m 142 3 D K q 29 E L)) : Cc d 0 0 213 [.ref 142, .ref (1000000 + s0)] (pp m 142 3 D K q 29 E L) Q := by
  refine ent (n := 48) z213 (by decide) rfl (by decide) (Nat.le_of_ble_eq_true rfl) (fun sc => ?_)
  refine And.intro (Wdo_142 hW) ?_
  rw [pp_10 (x := 142) (by decide)]
  refine And.intro (fun cz3 => ?_) (fun cz3 => ?_)
  · -- 3 taken: ¬ D 0 9 = nI 2
    refine And.intro ⟨rfl, Or.inl rfl, Nat.le_refl _, Nat.le_refl _⟩ ?_
    rw [bi_f (fun z => cz3 ((sq_q hT.2.1 (by decide) (by decide)).mpr z.1))] at hQ
    exact hQ
  · -- 3 not: D 0 9 = nI 2
    refine And.intro (Wdo_142 hW) ?_
    rw [pp_J10 (x := 142) (by decide)]
    refine And.intro ⟨by omega, Nat.le_of_ble_eq_true rfl, Nat.le_refl _, Nat.le_refl _⟩ ?_
    refine C210 (m := (pp m 142 3 D K q 29 E L)) (s0 := s0) (by omega) hs hl ?_
    rw [hc]
    refine And.intro (fun cz9 => ?_) (fun cz9 => ?_)
    · -- 9 taken: ¬ lg_cmp (K 0 17) w = 0
      refine And.intro ⟨rfl, Or.inl rfl, Nat.le_refl _, Nat.le_refl _⟩ ?_
      have kk2 := (sq_q (c := 2) hT.2.1 (by decide) (by decide)).mp cz3
      rw [(hT.2.2.2.1 kk2).2.1] at cz9
      rw [bi_f (fun z => cz9 (lg0.mpr z.2))] at hQ
      exact hQ
    · -- 9 not: lg_cmp (K 0 17) w = 0
      refine And.intro ⟨rfl, Or.inr rfl, Nat.le_refl _, Nat.le_refl _⟩ ?_
      have kk2 := (sq_q (c := 2) hT.2.1 (by decide) (by decide)).mp cz3
      rw [(hT.2.2.2.1 kk2).2.1] at cz9
      rw [bi_t ⟨kk2, lg0.mp cz9⟩] at hQ
      exact hQ
theorem O213 {d : Nat} {m : Mm} {Q : Option Value → Mm → Prop} {q : Nat} {E : Nat → Nat → Int32} {L : Nat → Nat → Int64} (hW : Wd m.2.2) (hN : NW m.2.2 q) (hdq : q + 29 ≤ 142 ∨ 142 + 3 ≤ q) {D : Nat → Nat → Int32} {K : Nat → Nat → Int64} {s0 : Nat} (h9 : D 0 9 = nI 5) (hQ : Q (some (.int (nI 0))) (pp m 142 3 D K q 29 E L)) : Cc d 0 0 213 [.ref 142, .ref (1000000 + s0)] (pp m 142 3 D K q 29 E L) Q := by
  refine ent (n := 48) z213 (by decide) rfl (by decide) (Nat.le_of_ble_eq_true rfl) (fun sc => ?_)
  refine And.intro (Wdo_142 hW) ?_
  rw [pp_10 (x := 142) (by decide)]
  refine And.intro (fun cz3 => ?_) (fun cz3 => ?_)
  · -- 3 taken: ¬ D 0 9 = nI 2
    refine And.intro ⟨rfl, Or.inl rfl, Nat.le_refl _, Nat.le_refl _⟩ ?_
    exact hQ
  · -- 3 not: D 0 9 = nI 2
    rw [h9] at cz3; exact absurd cz3 (by decide)
theorem L215 {d : Nat} {m : Mm} {Q : Option Value → Mm → Prop} {q : Nat} {E : Nat → Nat → Int32} {L : Nat → Nat → Int64} (hW : Wd m.2.2) (hN : NW m.2.2 q) (hdq : q + 29 ≤ 142 ∨ 142 + 3 ≤ q) {D : Nat → Nat → Int32} {K : Nat → Nat → Int64} {s0 : Nat} {w : Int64} (hs : s0 < sS.length) (hl : (sBy s0).length < 2 ^ 31) (hc : woC (sBy s0) (sBy s0).length = w) {B : Nat → Int32} {n i : Nat} (hR : RBy B n D) (hT : TR B n i D K) (hi : i ≤ n) (h14 : D 0 14 = nI 0) (hd : 6 ≤ d) (hQ : ∀ D1 K1, RX B n (pWord w B n i) D1 K1 → FY D D1 → Q (none) (pp m 142 3 D1 K1 q 29 E L))  : Cc d 0 0 215 [.ref 142, .ref (1000000 + s0)] (pp m 142 3 D K q 29 E L) Q := by
  refine ent (n := 40) z215 (by decide) rfl (by decide) (Nat.le_of_ble_eq_true rfl) (fun sc => ?_)
  refine And.intro ⟨by omega, Nat.le_of_ble_eq_true rfl, Nat.le_refl _, Nat.le_refl _⟩ (And.intro (Wdo_142 hW) ?_)
  refine D213 (s0 := s0) hW hN hdq hs hl hc hR hT hi h14 (by omega) ?_
  refine And.intro (fun cz3 => ?_) (fun cz3 => ?_)
  · -- 3 taken: ¬ bi (kiF B n i = 2 ∧ coT B n i = w) = 0
    have kk2 := (bi_ne0.mp cz3).1
    refine And.intro ⟨by omega, Nat.le_of_ble_eq_true rfl, Nat.le_refl _, Nat.le_refl _⟩ (And.intro (Wdo_142 hW) ?_)
    have h8 : D 0 8 = nI (nxF B n i) := hT.2.2.1 (by omega)
    refine D211 (B := B) (n := n) (i := nxF B n i) hW hN hdq (by omega) hR (nxF_le hi) (fun D1 K1 uT uX => ?_) h8 (sq_5 hT.2.1)
    · -- a way behind the call
      refine And.intro ⟨rfl, rfl, Nat.le_refl _, Nat.le_refl _⟩ ?_
      exact hQ _ _ (by rw [show pWord w B n i = .inr (nxF B n i) from if_pos (bi_ne0.mp cz3)]; exact (RX_l hR uX uT (nxF_le hi) h14)) (FY_x uX)
  · -- 3 not: bi (kiF B n i = 2 ∧ coT B n i = w) = 0
    refine And.intro ⟨by omega, Nat.le_of_ble_eq_true rfl, Nat.le_refl _, Nat.le_refl _⟩ (And.intro (Wdo_142 hW) ?_)
    refine D212 hW hN hdq (fun z => absurd z (sq_5 hT.2.1)) (fun _ => ?_)
    · -- a way behind the call
      rw [show (ud (ud (ud D 0 14 (nI 1)) 0 15 (D 0 10)) 0 9 (nI 5)) = flD D (nI 1) from rfl]
      refine And.intro ⟨by omega, Nat.le_of_ble_eq_true rfl, Nat.le_refl _, Nat.le_refl _⟩ (And.intro (Wdo_142 hW) ?_)
      refine O211 hW hN hdq rfl ?_
      refine And.intro ⟨rfl, rfl, Nat.le_refl _, Nat.le_refl _⟩ ?_
      exact hQ _ _ (by rw [show pWord w B n i = .inl (1, plF B n i) from if_neg (bi_eq0.mp cz3)]; exact RX_f hR hT) FY_f
theorem O215 {d : Nat} {m : Mm} {Q : Option Value → Mm → Prop} {q : Nat} {E : Nat → Nat → Int32} {L : Nat → Nat → Int64} (hW : Wd m.2.2) (hN : NW m.2.2 q) (hdq : q + 29 ≤ 142 ∨ 142 + 3 ≤ q) {D : Nat → Nat → Int32} {K : Nat → Nat → Int64} {s0 : Nat} {w : Int64} (hs : s0 < sS.length) (hl : (sBy s0).length < 2 ^ 31) (hc : woC (sBy s0) (sBy s0).length = w) {B : Nat → Int32} {n : Nat} {e : Nat × Nat} (hX : RX B n (.inl e) D K) (hd : 6 ≤ d) (hQ : ∀ D1 K1, RX B n (.inl e) D1 K1 → FY D D1 → Q (none) (pp m 142 3 D1 K1 q 29 E L))  : Cc d 0 0 215 [.ref 142, .ref (1000000 + s0)] (pp m 142 3 D K q 29 E L) Q := by
  refine ent (n := 40) z215 (by decide) rfl (by decide) (Nat.le_of_ble_eq_true rfl) (fun sc => ?_)
  refine And.intro ⟨by omega, Nat.le_of_ble_eq_true rfl, Nat.le_refl _, Nat.le_refl _⟩ (And.intro (Wdo_142 hW) ?_)
  refine O213 hW hN hdq hX.2.1 ?_
  refine And.intro (fun cz3 => False.elim (absurd cz3 (by decide))) (fun cz3 => ?_)
  refine And.intro ⟨by omega, Nat.le_of_ble_eq_true rfl, Nat.le_refl _, Nat.le_refl _⟩ (And.intro (Wdo_142 hW) ?_)
  refine D212 hW hN hdq (fun _ => ?_) (fun z => absurd hX.2.1 z)
  refine And.intro ⟨by omega, Nat.le_of_ble_eq_true rfl, Nat.le_refl _, Nat.le_refl _⟩ (And.intro (Wdo_142 hW) ?_)
  refine O211 hW hN hdq hX.2.1 ?_
  refine And.intro ⟨rfl, rfl, Nat.le_refl _, Nat.le_refl _⟩ ?_
  exact hQ _ _ hX FY_r
theorem X215 {d : Nat} {m : Mm} {Q : Option Value → Mm → Prop} {q : Nat} {E : Nat → Nat → Int32} {L : Nat → Nat → Int64} (hW : Wd m.2.2) (hN : NW m.2.2 q) (hdq : q + 29 ≤ 142 ∨ 142 + 3 ≤ q) {D : Nat → Nat → Int32} {K : Nat → Nat → Int64} {s0 : Nat} {w : Int64} (hs : s0 < sS.length) (hl : (sBy s0).length < 2 ^ 31) (hc : woC (sBy s0) (sBy s0).length = w) {B : Nat → Int32} {n : Nat} {X : Rs Nat} (hX : RX B n X D K) (hd : 6 ≤ d) (hQ : ∀ D1 K1, RX B n (rb X (fun i => pWord w B n i)) D1 K1 → FY D D1 → Q (none) (pp m 142 3 D1 K1 q 29 E L)) : Cc d 0 0 215 [.ref 142, .ref (1000000 + s0)] (pp m 142 3 D K q 29 E L) Q := by
  cases X with
  | inl e => exact O215 hW hN hdq hs hl hc hX hd hQ
  | inr i => exact L215 hW hN hdq hs hl hc hX.1 hX.2.1 hX.2.2.1 hX.2.2.2 hd hQ
theorem L216 {d : Nat} {m : Mm} {Q : Option Value → Mm → Prop} {q : Nat} {E : Nat → Nat → Int32} {L : Nat → Nat → Int64} (hW : Wd m.2.2) (hN : NW m.2.2 q) (hdq : q + 29 ≤ 142 ∨ 142 + 3 ≤ q) {D : Nat → Nat → Int32} {K : Nat → Nat → Int64} {w : Int32} {B : Nat → Int32} {n i : Nat} (hR : RBy B n D) (hT : TR B n i D K) (hi : i ≤ n) (h14 : D 0 14 = nI 0) (hd : 6 ≤ d) (hQ : ∀ D1 K1, RX B n (pSign w B n i) D1 K1 → FY D D1 → Q (none) (pp m 142 3 D1 K1 q 29 E L))  : Cc d 0 0 216 [.ref 142, .int w] (pp m 142 3 D K q 29 E L) Q := by
  refine ent (n := 48) z216 (by decide) rfl (by decide) (Nat.le_of_ble_eq_true rfl) (fun sc => ?_)
  refine And.intro (Wdo_142 hW) ?_
  rw [pp_10 (x := 142) (by decide)]
  refine And.intro (fun cz3 => ?_) (fun cz3 => ?_)
  · -- 3 taken: ¬ D 0 9 = nI 4
    refine And.intro ⟨by omega, Nat.le_of_ble_eq_true rfl, Nat.le_refl _, Nat.le_refl _⟩ (And.intro (Wdo_142 hW) ?_)
    refine D212 hW hN hdq (fun z => absurd z (sq_5 hT.2.1)) (fun _ => ?_)
    · -- a way behind the call
      rw [show (ud (ud (ud D 0 14 (nI 1)) 0 15 (D 0 10)) 0 9 (nI 5)) = flD D (nI 1) from rfl]
      refine And.intro ⟨by omega, Nat.le_of_ble_eq_true rfl, Nat.le_refl _, Nat.le_refl _⟩ (And.intro (Wdo_142 hW) ?_)
      refine O211 hW hN hdq rfl ?_
      refine And.intro ⟨rfl, rfl, Nat.le_refl _, Nat.le_refl _⟩ ?_
      exact hQ _ _ (by rw [show pSign w B n i = .inl (1, plF B n i) from if_neg (fun z => cz3 ((sq_q hT.2.1 (by decide) (by decide)).mpr z.1))]; exact RX_f hR hT) FY_f
  · -- 3 not: D 0 9 = nI 4
    have kk4 := (sq_q (c := 4) hT.2.1 (by decide) (by decide)).mp cz3
    refine And.intro (Wdo_142 hW) ?_
    rw [pp_10 (x := 142) (by decide)]
    refine And.intro (fun cz7 => ?_) (fun cz7 => ?_)
    · -- 7 taken: D 0 11 = w
      refine And.intro ⟨by omega, Nat.le_of_ble_eq_true rfl, Nat.le_refl _, Nat.le_refl _⟩ (And.intro (Wdo_142 hW) ?_)
      have h8 : D 0 8 = nI (nxF B n i) := hT.2.2.1 (by omega)
      refine D211 (B := B) (n := n) (i := nxF B n i) hW hN hdq (by omega) hR (nxF_le hi) (fun D1 K1 uT uX => ?_) h8 (sq_5 hT.2.1)
      · -- a way behind the call
        refine And.intro ⟨rfl, rfl, Nat.le_refl _, Nat.le_refl _⟩ ?_
        rw [hT.2.2.2.2.2 kk4] at cz7
        exact hQ _ _ (by rw [show pSign w B n i = .inr (nxF B n i) from if_pos ⟨kk4, cz7⟩]; exact (RX_l hR uX uT (nxF_le hi) h14)) (FY_x uX)
    · -- 7 not: ¬ D 0 11 = w
      refine And.intro ⟨by omega, Nat.le_of_ble_eq_true rfl, Nat.le_refl _, Nat.le_refl _⟩ (And.intro (Wdo_142 hW) ?_)
      refine D212 hW hN hdq (fun z => absurd z (sq_5 hT.2.1)) (fun _ => ?_)
      · -- a way behind the call
        rw [show (ud (ud (ud D 0 14 (nI 1)) 0 15 (D 0 10)) 0 9 (nI 5)) = flD D (nI 1) from rfl]
        refine And.intro ⟨by omega, Nat.le_of_ble_eq_true rfl, Nat.le_refl _, Nat.le_refl _⟩ (And.intro (Wdo_142 hW) ?_)
        refine O211 hW hN hdq rfl ?_
        refine And.intro ⟨rfl, rfl, Nat.le_refl _, Nat.le_refl _⟩ ?_
        rw [hT.2.2.2.2.2 kk4] at cz7
        exact hQ _ _ (by rw [show pSign w B n i = .inl (1, plF B n i) from if_neg (fun z => cz7 z.2)]; exact RX_f hR hT) FY_f
theorem O216 {d : Nat} {m : Mm} {Q : Option Value → Mm → Prop} {q : Nat} {E : Nat → Nat → Int32} {L : Nat → Nat → Int64} (hW : Wd m.2.2) (hN : NW m.2.2 q) (hdq : q + 29 ≤ 142 ∨ 142 + 3 ≤ q) {D : Nat → Nat → Int32} {K : Nat → Nat → Int64} {w : Int32} {B : Nat → Int32} {n : Nat} {e : Nat × Nat} (hX : RX B n (.inl e) D K) (hd : 6 ≤ d) (hQ : ∀ D1 K1, RX B n (.inl e) D1 K1 → FY D D1 → Q (none) (pp m 142 3 D1 K1 q 29 E L))  : Cc d 0 0 216 [.ref 142, .int w] (pp m 142 3 D K q 29 E L) Q := by
  refine ent (n := 48) z216 (by decide) rfl (by decide) (Nat.le_of_ble_eq_true rfl) (fun sc => ?_)
  refine And.intro (Wdo_142 hW) ?_
  rw [pp_10 (x := 142) (by decide)]
  refine And.intro (fun cz3 => ?_) (fun cz3 => ?_)
  · -- 3 taken: ¬ D 0 9 = nI 4
    refine And.intro ⟨by omega, Nat.le_of_ble_eq_true rfl, Nat.le_refl _, Nat.le_refl _⟩ (And.intro (Wdo_142 hW) ?_)
    refine D212 hW hN hdq (fun _ => ?_) (fun z => absurd hX.2.1 z)
    refine And.intro ⟨by omega, Nat.le_of_ble_eq_true rfl, Nat.le_refl _, Nat.le_refl _⟩ (And.intro (Wdo_142 hW) ?_)
    refine O211 hW hN hdq hX.2.1 ?_
    refine And.intro ⟨rfl, rfl, Nat.le_refl _, Nat.le_refl _⟩ ?_
    exact hQ _ _ hX FY_r
  · -- 3 not: D 0 9 = nI 4
    rw [hX.2.1] at cz3; exact absurd cz3 (by decide)
theorem X216 {d : Nat} {m : Mm} {Q : Option Value → Mm → Prop} {q : Nat} {E : Nat → Nat → Int32} {L : Nat → Nat → Int64} (hW : Wd m.2.2) (hN : NW m.2.2 q) (hdq : q + 29 ≤ 142 ∨ 142 + 3 ≤ q) {D : Nat → Nat → Int32} {K : Nat → Nat → Int64} {w : Int32} {B : Nat → Int32} {n : Nat} {X : Rs Nat} (hX : RX B n X D K) (hd : 6 ≤ d) (hQ : ∀ D1 K1, RX B n (rb X (fun i => pSign w B n i)) D1 K1 → FY D D1 → Q (none) (pp m 142 3 D1 K1 q 29 E L)) : Cc d 0 0 216 [.ref 142, .int w] (pp m 142 3 D K q 29 E L) Q := by
  cases X with
  | inl e => exact O216 hW hN hdq  hX hd hQ
  | inr i => exact L216 hW hN hdq  hX.1 hX.2.1 hX.2.2.1 hX.2.2.2 hd hQ
theorem L217 {d : Nat} {m : Mm} {Q : Option Value → Mm → Prop} {q : Nat} {E : Nat → Nat → Int32} {L : Nat → Nat → Int64} (hW : Wd m.2.2) (hN : NW m.2.2 q) (hdq : q + 29 ≤ 142 ∨ 142 + 3 ≤ q) {D : Nat → Nat → Int32} {K : Nat → Nat → Int64} {lo up : Int32} {B : Nat → Int32} {n i : Nat} (hR : RBy B n D) (hT : TR B n i D K) (hi : i ≤ n) (h14 : D 0 14 = nI 0) (hd : 6 ≤ d) (hQ : ∀ D1 K1 (v : Int32), RX B n (rb (pWhole lo up B n i) fun a => .inr a.2) D1 K1 → FY D D1 → (∀ i9 a j, (.inr i : Rs Nat) = .inr i9 → pWhole lo up B n i9 = .inr (a, j) → v = a) → Q (some (.int v)) (pp m 142 3 D1 K1 q 29 E L))  : Cc d 0 0 217 [.ref 142, .int lo, .int up] (pp m 142 3 D K q 29 E L) Q := by
  refine ent (n := 80) z217 (by decide) rfl (by decide) (Nat.le_of_ble_eq_true rfl) (fun sc => ?_)
  refine And.intro (Wdo_142 hW) ?_
  rw [pp_10 (x := 142) (by decide)]
  refine And.intro (fun cz3 => ?_) (fun cz3 => ?_)
  · -- 3 taken: D 0 9 = nI 3
    have kk3 := (sq_q (c := 3) hT.2.1 (by decide) (by decide)).mp cz3
    refine And.intro (Wdo_142 hW) ?_
    rw [pp_10 (x := 142) (by decide)]
    refine And.intro ⟨by omega, Nat.le_of_ble_eq_true rfl, Nat.le_refl _, Nat.le_refl _⟩ ?_
    refine C204 (m := (pp m 142 3 D K q 29 E L)) ?_
    refine And.intro (fun cz13 => ?_) (fun cz13 => ?_)
    · -- 13 taken: ¬ bi (lo ≤ D 0 12 ∧ D 0 12 ≤ up) = 0
      refine And.intro (Wdo_142 hW) ?_
      rw [pp_10 (x := 142) (by decide)]
      refine And.intro (fun cz20 => ?_) (fun cz20 => ?_)
      · -- 20 taken: ¬ D 0 9 = nI 5
        refine And.intro (Wdo_142 hW) ?_
        rw [pp_10 (x := 142) (by decide)]
        refine And.intro ⟨by omega, Nat.le_of_ble_eq_true rfl, Nat.le_refl _, Nat.le_refl _⟩ (And.intro (Wdo_142 hW) ?_)
        have h8 : D 0 8 = nI (nxF B n i) := hT.2.2.1 (by omega)
        refine D211 (B := B) (n := n) (i := nxF B n i) hW hN hdq (by omega) hR (nxF_le hi) (fun D1 K1 uT uX => ?_) h8 (sq_5 hT.2.1)
        · -- a way behind the call
          refine And.intro ⟨rfl, trivial, Nat.le_refl _, Nat.le_refl _⟩ ?_
          rw [hT.2.2.2.2.1 kk3] at cz13
          have ew : pWhole lo up B n i = .inr (vaT B n i, nxF B n i) := by unfold pWhole; rw [if_pos kk3, if_neg (fun z => z.elim (Int32.not_lt.mpr (bi_ne0.mp cz13).1) (Int32.not_lt.mpr (bi_ne0.mp cz13).2))]
          exact hQ _ _ _ (by rw [ew]; exact (RX_l hR uX uT (nxF_le hi) h14)) (FY_x uX) (fun i2 a j z e => by cases z; rw [ew] at e; cases e; exact hT.2.2.2.2.1 kk3)
      · -- 20 not: D 0 9 = nI 5
        exact absurd cz20 (sq_5 hT.2.1)
    · -- 13 not: bi (lo ≤ D 0 12 ∧ D 0 12 ≤ up) = 0
      refine And.intro ⟨by omega, Nat.le_of_ble_eq_true rfl, Nat.le_refl _, Nat.le_refl _⟩ (And.intro (Wdo_142 hW) ?_)
      refine D212 hW hN hdq (fun z => absurd z (sq_5 hT.2.1)) (fun _ => ?_)
      · -- a way behind the call
        rw [show (ud (ud (ud D 0 14 (nI 4)) 0 15 (D 0 10)) 0 9 (nI 5)) = flD D (nI 4) from rfl]
        refine And.intro (Wdo_142 hW) ?_
        rw [pp_10 (x := 142) (by decide)]
        refine And.intro (fun cz20 => ?_) (fun cz20 => ?_)
        · -- 20 taken: ¬ (flD D (nI 4)) 0 9 = nI 5
          exact absurd rfl cz20
        · -- 20 not: (flD D (nI 4)) 0 9 = nI 5
          refine And.intro ⟨by omega, Nat.le_of_ble_eq_true rfl, Nat.le_refl _, Nat.le_refl _⟩ (And.intro (Wdo_142 hW) ?_)
          refine O211 hW hN hdq rfl ?_
          refine And.intro ⟨rfl, trivial, Nat.le_refl _, Nat.le_refl _⟩ ?_
          rw [hT.2.2.2.2.1 kk3] at cz13
          have ew : pWhole lo up B n i = .inl (4, plF B n i) := by unfold pWhole; rw [if_pos kk3, if_pos (Classical.byContradiction fun z => bi_eq0.mp cz13 ⟨Int32.not_lt.mp fun y => z (Or.inl y), Int32.not_lt.mp fun y => z (Or.inr y)⟩)]
          exact hQ _ _ _ (by rw [ew]; exact RX_f hR hT) FY_f (fun i2 a j z e => by cases z; rw [ew] at e; cases e)
  · -- 3 not: ¬ D 0 9 = nI 3
    refine And.intro ⟨by omega, Nat.le_of_ble_eq_true rfl, Nat.le_refl _, Nat.le_refl _⟩ (And.intro (Wdo_142 hW) ?_)
    refine D212 hW hN hdq (fun z => absurd z (sq_5 hT.2.1)) (fun _ => ?_)
    · -- a way behind the call
      rw [show (ud (ud (ud D 0 14 (nI 1)) 0 15 (D 0 10)) 0 9 (nI 5)) = flD D (nI 1) from rfl]
      refine And.intro (Wdo_142 hW) ?_
      rw [pp_10 (x := 142) (by decide)]
      refine And.intro (fun cz20 => ?_) (fun cz20 => ?_)
      · -- 20 taken: ¬ (flD D (nI 1)) 0 9 = nI 5
        exact absurd rfl cz20
      · -- 20 not: (flD D (nI 1)) 0 9 = nI 5
        refine And.intro ⟨by omega, Nat.le_of_ble_eq_true rfl, Nat.le_refl _, Nat.le_refl _⟩ (And.intro (Wdo_142 hW) ?_)
        refine O211 hW hN hdq rfl ?_
        refine And.intro ⟨rfl, trivial, Nat.le_refl _, Nat.le_refl _⟩ ?_
        have ew : pWhole lo up B n i = .inl (1, plF B n i) := if_neg (fun z => cz3 ((sq_q hT.2.1 (by decide) (by decide)).mpr z))
        exact hQ _ _ _ (by rw [ew]; exact RX_f hR hT) FY_f (fun i2 a j z e => by cases z; rw [ew] at e; cases e)
theorem O217 {d : Nat} {m : Mm} {Q : Option Value → Mm → Prop} {q : Nat} {E : Nat → Nat → Int32} {L : Nat → Nat → Int64} (hW : Wd m.2.2) (hN : NW m.2.2 q) (hdq : q + 29 ≤ 142 ∨ 142 + 3 ≤ q) {D : Nat → Nat → Int32} {K : Nat → Nat → Int64} {lo up : Int32} {B : Nat → Int32} {n : Nat} {e : Nat × Nat} (hX : RX B n (.inl e) D K) (hd : 6 ≤ d) (hQ : ∀ D1 K1 (v : Int32), RX B n (.inl e) D1 K1 → FY D D1 → (∀ i9 a j, (.inl e : Rs Nat) = .inr i9 → pWhole lo up B n i9 = .inr (a, j) → v = a) → Q (some (.int v)) (pp m 142 3 D1 K1 q 29 E L))  : Cc d 0 0 217 [.ref 142, .int lo, .int up] (pp m 142 3 D K q 29 E L) Q := by
  refine ent (n := 80) z217 (by decide) rfl (by decide) (Nat.le_of_ble_eq_true rfl) (fun sc => ?_)
  refine And.intro (Wdo_142 hW) ?_
  rw [pp_10 (x := 142) (by decide)]
  refine And.intro (fun cz3 => ?_) (fun cz3 => ?_)
  · -- 3 taken: D 0 9 = nI 3
    rw [hX.2.1] at cz3; exact absurd cz3 (by decide)
  · -- 3 not: ¬ D 0 9 = nI 3
    refine And.intro ⟨by omega, Nat.le_of_ble_eq_true rfl, Nat.le_refl _, Nat.le_refl _⟩ (And.intro (Wdo_142 hW) ?_)
    refine D212 hW hN hdq (fun _ => ?_) (fun z => absurd hX.2.1 z)
    refine And.intro (Wdo_142 hW) ?_
    rw [pp_10 (x := 142) (by decide)]
    refine And.intro (fun cz20 => ?_) (fun cz20 => ?_)
    · -- 20 taken: ¬ D 0 9 = nI 5
      exact absurd hX.2.1 cz20
    · -- 20 not: D 0 9 = nI 5
      refine And.intro ⟨by omega, Nat.le_of_ble_eq_true rfl, Nat.le_refl _, Nat.le_refl _⟩ (And.intro (Wdo_142 hW) ?_)
      refine O211 hW hN hdq hX.2.1 ?_
      refine And.intro ⟨rfl, trivial, Nat.le_refl _, Nat.le_refl _⟩ ?_
      exact hQ _ _ _ hX FY_r (fun i a j z => by cases z)
theorem X217 {d : Nat} {m : Mm} {Q : Option Value → Mm → Prop} {q : Nat} {E : Nat → Nat → Int32} {L : Nat → Nat → Int64} (hW : Wd m.2.2) (hN : NW m.2.2 q) (hdq : q + 29 ≤ 142 ∨ 142 + 3 ≤ q) {D : Nat → Nat → Int32} {K : Nat → Nat → Int64} {lo up : Int32} {B : Nat → Int32} {n : Nat} {X : Rs Nat} (hX : RX B n X D K) (hd : 6 ≤ d) (hQ : ∀ D1 K1 (v : Int32), RX B n (rb X (fun i => rb (pWhole lo up B n i) fun a => .inr a.2)) D1 K1 → FY D D1 → (∀ i9 a j, X = .inr i9 → pWhole lo up B n i9 = .inr (a, j) → v = a) → Q (some (.int v)) (pp m 142 3 D1 K1 q 29 E L)) : Cc d 0 0 217 [.ref 142, .int lo, .int up] (pp m 142 3 D K q 29 E L) Q := by
  cases X with
  | inl e => exact O217 hW hN hdq  hX hd hQ
  | inr i => exact L217 hW hN hdq  hX.1 hX.2.1 hX.2.2.1 hX.2.2.2 hd hQ
theorem rb_a {α β γ : Type} {X : Rs α} {f : α → Rs β} {g : β → Rs γ} : rb (rb X f) g = rb X (fun a => rb (f a) g) := by
  cases X <;> rfl
theorem X218 {d : Nat} {m : Mm} {Q : Option Value → Mm → Prop} {q : Nat} {E : Nat → Nat → Int32} {L : Nat → Nat → Int64} (hW : Wd m.2.2) (hN : NW m.2.2 q) (hdq : q + 29 ≤ 142 ∨ 142 + 3 ≤ q) {D : Nat → Nat → Int32} {K : Nat → Nat → Int64} {s0 : Nat} {w : Int64} (hs : s0 < sS.length) (hl : (sBy s0).length < 2 ^ 31) (hc : woC (sBy s0) (sBy s0).length = w) {B : Nat → Int32} {n : Nat} {X : Rs Nat} {lo up : Int32} (hX : RX B n X D K) (hd : 8 ≤ d) (hQ : ∀ D1 K1 (v : Int32), RX B n (rb (rb X (fun i => pWord w B n i)) (fun i => rb (pWhole lo up B n i) fun a => .inr a.2)) D1 K1 → FY D D1 → (∀ i a j, rb X (fun i => pWord w B n i) = .inr i → pWhole lo up B n i = .inr (a, j) → v = a) → Q (some (.int v)) (pp m 142 3 D1 K1 q 29 E L)) : Cc d 0 0 218 [.ref 142, .ref (1000000 + s0), .int lo, .int up] (pp m 142 3 D K q 29 E L) Q := by
  refine ent (n := 40) z218 (by decide) rfl (by decide) (Nat.le_of_ble_eq_true rfl) (fun sc => ?_)
  refine And.intro ⟨by omega, Nat.le_of_ble_eq_true rfl, Nat.le_refl _, Nat.le_refl _⟩ (And.intro (Wdo_142 hW) ?_)
  refine X215 hW hN hdq hs hl hc hX (by omega) (fun D1 K1 hX1 hy1 => ?_)
  refine And.intro ⟨by omega, Nat.le_of_ble_eq_true rfl, Nat.le_refl _, Nat.le_refl _⟩ (And.intro (Wdo_142 hW) ?_)
  refine X217 hW hN hdq hX1 (by omega) (fun D2 K2 v hX2 hy2 hv => ?_)
  refine And.intro ⟨rfl, trivial, Nat.le_refl _, Nat.le_refl _⟩ ?_
  exact hQ D2 K2 v hX2 (FY_t hy1 hy2) hv
theorem ix_r {c : Int64} : ∀ {l : List Int64} {x : Nat}, (∀ e ∈ l, ¬ e = c) → ixF c l (nI x) = -nI 1
  | [], _, _ => rfl
  | e :: r, x, h => by
    unfold ixF
    rw [if_neg (h e List.mem_cons_self), nI_add]
    exact ix_r fun e he => h e (List.mem_cons_of_mem _ he)
theorem ix_n {c : Int64} {l : List Int64} (hl : l.length < 1000) : ixF c l (nI 0) = -nI 1 → ∀ e ∈ l, ¬ e = c := by
  have H : ∀ (l : List Int64) (x : Nat), l.length + x < 2000 → ixF c l (nI x) = -nI 1 → ∀ e ∈ l, ¬ e = c := by
    intro l
    induction l with
    | nil => intro x _ _ e he; cases he
    | cons a r ih =>
      intro x hx h e he
      rw [List.length_cons] at hx
      unfold ixF at h
      split at h
      · exact absurd h (nI_neg1 (by omega))
      · rename_i h1
        rw [nI_add] at h
        rcases List.mem_cons.mp he with q | q
        · rw [q]; exact h1
        · exact ih (x + 1) (by omega) h e q
  exact H l 0 (by omega)
theorem D219 {d : Nat} {m : Mm} {Q : Option Value → Mm → Prop} {q : Nat} {E : Nat → Nat → Int32} {L : Nat → Nat → Int64} (hW : Wd m.2.2) (hN : NW m.2.2 q) (hdq : q + 29 ≤ 142 ∨ 142 + 3 ≤ q) {D : Nat → Nat → Int32} {K : Nat → Nat → Int64} {B : Nat → Int32} {n i : Nat} (hR : RBy B n D) (hT : TR B n i D K) (hi : i ≤ n) (h14 : D 0 14 = nI 0) (hd : 6 ≤ d) (hQ : Q (some (.int (bi (nmP B n i)))) (pp m 142 3 D K q 29 E L)) : Cc d 0 0 219 [.ref 142] (pp m 142 3 D K q 29 E L) Q := by
  refine ent (n := 156) z219 (by decide) rfl (by decide) (Nat.le_of_ble_eq_true rfl) (fun sc => ?_)
  refine And.intro (Wdo_142 hW) ?_
  rw [pp_10 (x := 142) (by decide)]
  refine And.intro (fun cz3 => ?_) (fun cz3 => ?_)
  · -- 3 taken: ¬ D 0 9 = nI 2
    refine And.intro ⟨rfl, Or.inl rfl, Nat.le_refl _, Nat.le_refl _⟩ ?_
    rw [bi_f (fun z => cz3 ((sq_q hT.2.1 (by decide) (by decide)).mpr z.1))] at hQ
    exact hQ
  · -- 3 not: D 0 9 = nI 2
    have kk2 := (sq_q (c := 2) hT.2.1 (by decide) (by decide)).mp cz3
    refine And.intro ⟨by omega, Nat.le_of_ble_eq_true rfl, Nat.le_refl _, Nat.le_refl _⟩ (And.intro (Wdo_142 hW) ?_)
    refine D213 (s0 := 21) hW hN hdq (by decide) (by decide) wo_21 hR hT hi h14 (by omega) ?_
    refine And.intro (fun cz7 => ?_) (fun cz7 => ?_)
    · -- 7 taken: ¬ bi (kiF B n i = 2 ∧ coT B n i = lN 394692) = 0
      refine And.intro ⟨rfl, Or.inl rfl, Nat.le_refl _, Nat.le_refl _⟩ ?_
      rw [bi_f (fun z => ix_n (by decide) z.2 _ (List.mem_of_getElem? (i := 0) rfl) (bi_ne0.mp cz7).2.symm)] at hQ
      exact hQ
    · -- 7 not: bi (kiF B n i = 2 ∧ coT B n i = lN 394692) = 0
      refine And.intro ⟨by omega, Nat.le_of_ble_eq_true rfl, Nat.le_refl _, Nat.le_refl _⟩ (And.intro (Wdo_142 hW) ?_)
      refine D213 (s0 := 28) hW hN hdq (by decide) (by decide) wo_28 hR hT hi h14 (by omega) ?_
      refine And.intro (fun cz11 => ?_) (fun cz11 => ?_)
      · -- 11 taken: ¬ bi (kiF B n i = 2 ∧ coT B n i = lN 18935) = 0
        refine And.intro ⟨rfl, Or.inl rfl, Nat.le_refl _, Nat.le_refl _⟩ ?_
        rw [bi_f (fun z => ix_n (by decide) z.2 _ (List.mem_of_getElem? (i := 1) rfl) (bi_ne0.mp cz11).2.symm)] at hQ
        exact hQ
      · -- 11 not: bi (kiF B n i = 2 ∧ coT B n i = lN 18935) = 0
        refine And.intro ⟨by omega, Nat.le_of_ble_eq_true rfl, Nat.le_refl _, Nat.le_refl _⟩ (And.intro (Wdo_142 hW) ?_)
        refine D213 (s0 := 29) hW hN hdq (by decide) (by decide) wo_29 hR hT hi h14 (by omega) ?_
        refine And.intro (fun cz15 => ?_) (fun cz15 => ?_)
        · -- 15 taken: ¬ bi (kiF B n i = 2 ∧ coT B n i = lN 21243335) = 0
          refine And.intro ⟨rfl, Or.inl rfl, Nat.le_refl _, Nat.le_refl _⟩ ?_
          rw [bi_f (fun z => ix_n (by decide) z.2 _ (List.mem_of_getElem? (i := 2) rfl) (bi_ne0.mp cz15).2.symm)] at hQ
          exact hQ
        · -- 15 not: bi (kiF B n i = 2 ∧ coT B n i = lN 21243335) = 0
          refine And.intro ⟨by omega, Nat.le_of_ble_eq_true rfl, Nat.le_refl _, Nat.le_refl _⟩ (And.intro (Wdo_142 hW) ?_)
          refine D213 (s0 := 30) hW hN hdq (by decide) (by decide) wo_30 hR hT hi h14 (by omega) ?_
          refine And.intro (fun cz19 => ?_) (fun cz19 => ?_)
          · -- 19 taken: ¬ bi (kiF B n i = 2 ∧ coT B n i = lN 414827) = 0
            refine And.intro ⟨rfl, Or.inl rfl, Nat.le_refl _, Nat.le_refl _⟩ ?_
            rw [bi_f (fun z => ix_n (by decide) z.2 _ (List.mem_of_getElem? (i := 3) rfl) (bi_ne0.mp cz19).2.symm)] at hQ
            exact hQ
          · -- 19 not: bi (kiF B n i = 2 ∧ coT B n i = lN 414827) = 0
            refine And.intro ⟨by omega, Nat.le_of_ble_eq_true rfl, Nat.le_refl _, Nat.le_refl _⟩ (And.intro (Wdo_142 hW) ?_)
            refine D213 (s0 := 31) hW hN hdq (by decide) (by decide) wo_31 hR hT hi h14 (by omega) ?_
            refine And.intro (fun cz23 => ?_) (fun cz23 => ?_)
            · -- 23 taken: bi (kiF B n i = 2 ∧ coT B n i = lN 7652) = 0
              refine And.intro ⟨by omega, Nat.le_of_ble_eq_true rfl, Nat.le_refl _, Nat.le_refl _⟩ (And.intro (Wdo_142 hW) ?_)
              refine D213 (s0 := 32) hW hN hdq (by decide) (by decide) wo_32 hR hT hi h14 (by omega) ?_
              refine And.intro (fun cz29 => ?_) (fun cz29 => ?_)
              · -- 29 taken: ¬ bi (kiF B n i = 2 ∧ coT B n i = lN 8892563) = 0
                refine And.intro ⟨rfl, Or.inl rfl, Nat.le_refl _, Nat.le_refl _⟩ ?_
                rw [bi_f (fun z => ix_n (by decide) z.2 _ (List.mem_of_getElem? (i := 5) rfl) (bi_ne0.mp cz29).2.symm)] at hQ
                exact hQ
              · -- 29 not: bi (kiF B n i = 2 ∧ coT B n i = lN 8892563) = 0
                refine And.intro ⟨by omega, Nat.le_of_ble_eq_true rfl, Nat.le_refl _, Nat.le_refl _⟩ (And.intro (Wdo_142 hW) ?_)
                refine D213 (s0 := 33) hW hN hdq (by decide) (by decide) wo_33 hR hT hi h14 (by omega) ?_
                refine And.intro (fun cz33 => ?_) (fun cz33 => ?_)
                · -- 33 taken: ¬ bi (kiF B n i = 2 ∧ coT B n i = lN 20101267) = 0
                  refine And.intro ⟨rfl, Or.inl rfl, Nat.le_refl _, Nat.le_refl _⟩ ?_
                  rw [bi_f (fun z => ix_n (by decide) z.2 _ (List.mem_of_getElem? (i := 6) rfl) (bi_ne0.mp cz33).2.symm)] at hQ
                  exact hQ
                · -- 33 not: bi (kiF B n i = 2 ∧ coT B n i = lN 20101267) = 0
                  refine And.intro ⟨by omega, Nat.le_of_ble_eq_true rfl, Nat.le_refl _, Nat.le_refl _⟩ (And.intro (Wdo_142 hW) ?_)
                  refine D213 (s0 := 34) hW hN hdq (by decide) (by decide) wo_34 hR hT hi h14 (by omega) ?_
                  refine And.intro (fun cz37 => ?_) (fun cz37 => ?_)
                  · -- 37 taken: ¬ bi (kiF B n i = 2 ∧ coT B n i = lN 67155) = 0
                    refine And.intro ⟨rfl, Or.inl rfl, Nat.le_refl _, Nat.le_refl _⟩ ?_
                    rw [bi_f (fun z => ix_n (by decide) z.2 _ (List.mem_of_getElem? (i := 7) rfl) (bi_ne0.mp cz37).2.symm)] at hQ
                    exact hQ
                  · -- 37 not: bi (kiF B n i = 2 ∧ coT B n i = lN 67155) = 0
                    refine And.intro ⟨by omega, Nat.le_of_ble_eq_true rfl, Nat.le_refl _, Nat.le_refl _⟩ (And.intro (Wdo_142 hW) ?_)
                    refine D213 (s0 := 35) hW hN hdq (by decide) (by decide) wo_35 hR hT hi h14 (by omega) ?_
                    refine And.intro (fun cz41 => ?_) (fun cz41 => ?_)
                    · -- 41 taken: ¬ bi (kiF B n i = 2 ∧ coT B n i = lN 555803826) = 0
                      refine And.intro ⟨rfl, Or.inl rfl, Nat.le_refl _, Nat.le_refl _⟩ ?_
                      rw [bi_f (fun z => ix_n (by decide) z.2 _ (List.mem_of_getElem? (i := 8) rfl) (bi_ne0.mp cz41).2.symm)] at hQ
                      exact hQ
                    · -- 41 not: bi (kiF B n i = 2 ∧ coT B n i = lN 555803826) = 0
                      refine And.intro ⟨by omega, Nat.le_of_ble_eq_true rfl, Nat.le_refl _, Nat.le_refl _⟩ (And.intro (Wdo_142 hW) ?_)
                      refine D213 (s0 := 36) hW hN hdq (by decide) (by decide) wo_36 hR hT hi h14 (by omega) ?_
                      refine And.intro (fun cz45 => ?_) (fun cz45 => ?_)
                      · -- 45 taken: bi (kiF B n i = 2 ∧ coT B n i = lN 3540584) = 0
                        refine And.intro ⟨by omega, Nat.le_of_ble_eq_true rfl, Nat.le_refl _, Nat.le_refl _⟩ (And.intro (Wdo_142 hW) ?_)
                        refine D213 (s0 := 37) hW hN hdq (by decide) (by decide) wo_37 hR hT hi h14 (by omega) ?_
                        refine And.intro (fun cz51 => ?_) (fun cz51 => ?_)
                        · -- 51 taken: ¬ bi (kiF B n i = 2 ∧ coT B n i = lN 23937287397) = 0
                          refine And.intro ⟨rfl, Or.inl rfl, Nat.le_refl _, Nat.le_refl _⟩ ?_
                          rw [bi_f (fun z => ix_n (by decide) z.2 _ (List.mem_of_getElem? (i := 10) rfl) (bi_ne0.mp cz51).2.symm)] at hQ
                          exact hQ
                        · -- 51 not: bi (kiF B n i = 2 ∧ coT B n i = lN 23937287397) = 0
                          refine And.intro ⟨by omega, Nat.le_of_ble_eq_true rfl, Nat.le_refl _, Nat.le_refl _⟩ (And.intro (Wdo_142 hW) ?_)
                          refine D213 (s0 := 38) hW hN hdq (by decide) (by decide) wo_38 hR hT hi h14 (by omega) ?_
                          refine And.intro (fun cz55 => ?_) (fun cz55 => ?_)
                          · -- 55 taken: ¬ bi (kiF B n i = 2 ∧ coT B n i = lN 20452748) = 0
                            refine And.intro ⟨rfl, Or.inl rfl, Nat.le_refl _, Nat.le_refl _⟩ ?_
                            rw [bi_f (fun z => ix_n (by decide) z.2 _ (List.mem_of_getElem? (i := 11) rfl) (bi_ne0.mp cz55).2.symm)] at hQ
                            exact hQ
                          · -- 55 not: bi (kiF B n i = 2 ∧ coT B n i = lN 20452748) = 0
                            refine And.intro ⟨by omega, Nat.le_of_ble_eq_true rfl, Nat.le_refl _, Nat.le_refl _⟩ (And.intro (Wdo_142 hW) ?_)
                            refine D213 (s0 := 39) hW hN hdq (by decide) (by decide) wo_39 hR hT hi h14 (by omega) ?_
                            refine And.intro (fun cz59 => ?_) (fun cz59 => ?_)
                            · -- 59 taken: ¬ bi (kiF B n i = 2 ∧ coT B n i = lN 19511) = 0
                              refine And.intro ⟨rfl, Or.inl rfl, Nat.le_refl _, Nat.le_refl _⟩ ?_
                              rw [bi_f (fun z => ix_n (by decide) z.2 _ (List.mem_of_getElem? (i := 12) rfl) (bi_ne0.mp cz59).2.symm)] at hQ
                              exact hQ
                            · -- 59 not: bi (kiF B n i = 2 ∧ coT B n i = lN 19511) = 0
                              refine And.intro ⟨by omega, Nat.le_of_ble_eq_true rfl, Nat.le_refl _, Nat.le_refl _⟩ (And.intro (Wdo_142 hW) ?_)
                              refine D213 (s0 := 40) hW hN hdq (by decide) (by decide) wo_40 hR hT hi h14 (by omega) ?_
                              refine And.intro (fun cz63 => ?_) (fun cz63 => ?_)
                              · -- 63 taken: ¬ bi (kiF B n i = 2 ∧ coT B n i = lN 1497) = 0
                                refine And.intro ⟨rfl, Or.inl rfl, Nat.le_refl _, Nat.le_refl _⟩ ?_
                                rw [bi_f (fun z => ix_n (by decide) z.2 _ (List.mem_of_getElem? (i := 13) rfl) (bi_ne0.mp cz63).2.symm)] at hQ
                                exact hQ
                              · -- 63 not: bi (kiF B n i = 2 ∧ coT B n i = lN 1497) = 0
                                refine And.intro ⟨rfl, Or.inr rfl, Nat.le_refl _, Nat.le_refl _⟩ ?_
                                have hx9 : ixF (coT B n i) rsvL (nI 0) = -nI 1 := by
                                  refine ix_r (x := 0) (fun e he => ?_)
                                  rcases List.mem_cons.mp he with rfl | he
                                  · exact fun z => bi_eq0.mp cz7 ⟨kk2, z.symm⟩
                                  rcases List.mem_cons.mp he with rfl | he
                                  · exact fun z => bi_eq0.mp cz11 ⟨kk2, z.symm⟩
                                  rcases List.mem_cons.mp he with rfl | he
                                  · exact fun z => bi_eq0.mp cz15 ⟨kk2, z.symm⟩
                                  rcases List.mem_cons.mp he with rfl | he
                                  · exact fun z => bi_eq0.mp cz19 ⟨kk2, z.symm⟩
                                  rcases List.mem_cons.mp he with rfl | he
                                  · exact fun z => bi_eq0.mp cz23 ⟨kk2, z.symm⟩
                                  rcases List.mem_cons.mp he with rfl | he
                                  · exact fun z => bi_eq0.mp cz29 ⟨kk2, z.symm⟩
                                  rcases List.mem_cons.mp he with rfl | he
                                  · exact fun z => bi_eq0.mp cz33 ⟨kk2, z.symm⟩
                                  rcases List.mem_cons.mp he with rfl | he
                                  · exact fun z => bi_eq0.mp cz37 ⟨kk2, z.symm⟩
                                  rcases List.mem_cons.mp he with rfl | he
                                  · exact fun z => bi_eq0.mp cz41 ⟨kk2, z.symm⟩
                                  rcases List.mem_cons.mp he with rfl | he
                                  · exact fun z => bi_eq0.mp cz45 ⟨kk2, z.symm⟩
                                  rcases List.mem_cons.mp he with rfl | he
                                  · exact fun z => bi_eq0.mp cz51 ⟨kk2, z.symm⟩
                                  rcases List.mem_cons.mp he with rfl | he
                                  · exact fun z => bi_eq0.mp cz55 ⟨kk2, z.symm⟩
                                  rcases List.mem_cons.mp he with rfl | he
                                  · exact fun z => bi_eq0.mp cz59 ⟨kk2, z.symm⟩
                                  rcases List.mem_cons.mp he with rfl | he
                                  · exact fun z => bi_eq0.mp cz63 ⟨kk2, z.symm⟩
                                  cases he
                                rw [bi_t ⟨kk2, hx9⟩] at hQ
                                exact hQ
                      · -- 45 not: ¬ bi (kiF B n i = 2 ∧ coT B n i = lN 3540584) = 0
                        refine And.intro ⟨rfl, Or.inl rfl, Nat.le_refl _, Nat.le_refl _⟩ ?_
                        rw [bi_f (fun z => ix_n (by decide) z.2 _ (List.mem_of_getElem? (i := 9) rfl) (bi_ne0.mp cz45).2.symm)] at hQ
                        exact hQ
            · -- 23 not: ¬ bi (kiF B n i = 2 ∧ coT B n i = lN 7652) = 0
              refine And.intro ⟨rfl, Or.inl rfl, Nat.le_refl _, Nat.le_refl _⟩ ?_
              rw [bi_f (fun z => ix_n (by decide) z.2 _ (List.mem_of_getElem? (i := 4) rfl) (bi_ne0.mp cz23).2.symm)] at hQ
              exact hQ
theorem O219 {d : Nat} {m : Mm} {Q : Option Value → Mm → Prop} {q : Nat} {E : Nat → Nat → Int32} {L : Nat → Nat → Int64} (hW : Wd m.2.2) (hN : NW m.2.2 q) (hdq : q + 29 ≤ 142 ∨ 142 + 3 ≤ q) {D : Nat → Nat → Int32} {K : Nat → Nat → Int64} (h9 : D 0 9 = nI 5) (hQ : Q (some (.int (nI 0))) (pp m 142 3 D K q 29 E L)) : Cc d 0 0 219 [.ref 142] (pp m 142 3 D K q 29 E L) Q := by
  refine ent (n := 156) z219 (by decide) rfl (by decide) (Nat.le_of_ble_eq_true rfl) (fun sc => ?_)
  refine And.intro (Wdo_142 hW) ?_
  rw [pp_10 (x := 142) (by decide)]
  refine And.intro (fun cz3 => ?_) (fun cz3 => ?_)
  · -- 3 taken: ¬ D 0 9 = nI 2
    refine And.intro ⟨rfl, Or.inl rfl, Nat.le_refl _, Nat.le_refl _⟩ ?_
    exact hQ
  · -- 3 not: D 0 9 = nI 2
    rw [h9] at cz3; exact absurd cz3 (by decide)
def rsn (s : Nat) : Nat := if s = 2 then 0 else if s = 4 then 1 else if s = 8 then 2 else 3
/-- the reference's names -/
def NR (T : NT) (E : Nat → Nat → Int32) (L : Nat → Nat → Int64) : Prop := E 0 15 = nI T.1 ∧ T.1 ≤ 24 ∧ ∀ j, j < T.1 → L 26 j = T.2.1 j ∧ E 28 j = T.2.2.2 j ∧ ∃ s, (s = 2 ∨ s = 4 ∨ s = 8 ∨ s = 10) ∧ T.2.2.1 j = nI s ∧ E 27 j = nI (rsn s)
theorem lq196 {sc : Nat × (Nat → Int32)} {d : Nat} {m : Mm} {Q : Option Value → Mm → Prop} {q : Nat} {E : Nat → Nat → Int32} {L : Nat → Nat → Int64} (hW : Wd m.2.2) (hN : NW m.2.2 q) (hdq : q + 29 ≤ 142 ∨ 142 + 3 ≤ q) {D : Nat → Nat → Int32} {K : Nat → Nat → Int64} {T : NT} (hNR : NR T E L) {c : Int64} (hQ : fdQ T.2.1 c T.1 < T.1 → Q (some (.int (nI (fdQ T.2.1 c T.1)))) (pp m 142 3 D K q 29 E L)) (hM : ¬ fdQ T.2.1 c T.1 < T.1 → Q (some (.int (-nI 1))) (pp m 142 3 D K q 29 E L))  : ∀ (j j9 : Nat), j9 ≤ T.1 → T.1 + 1 ≤ j9 + j → (∀ j1, j1 < j9 → ¬ T.2.1 j1 = c) → Jj sc d 0 0 (mth 196) (pg P196 2).1 [some (.ref q), some (.long c), none, some (.int (nI j9))] [] (pp m 142 3 D K q 29 E L) 0 0 Q := by
  intro j
  induction j with
  | zero => intro j9 h1 h2 hall; omega
  | succ j ih =>
    intro j9 h1 h2 hall
    refine J_w z196 (i := 2) (by decide) 58 ?_
    have hk24 := hNR.2.1
    refine And.intro (NWo_0 hN) ?_
    rw [pp_20 (y := q) (by omega) (by decide)]
    rw [hNR.1]
    refine And.intro (fun cz5 => ?_) (fun cz5 => ?_)
    · -- 5 taken: nI T.1 ≤ nI j9
      have kz5 : T.1 ≤ j9 := kle (a := T.1) (b := j9) rfl rfl (by omega) (by omega) cz5
      refine And.intro ⟨rfl, trivial, Nat.le_refl _, Nat.le_refl _⟩ ?_
      rw [show j9 = T.1 by omega] at hall
      exact hM (by rw [fdQ_u (k := T.1) hall (fun h => absurd h (by omega)) (Nat.le_refl _)]; omega)
    · -- 5 not: ¬ nI T.1 ≤ nI j9
      have kz5 : j9 < T.1 := knle (a := T.1) (b := j9) rfl rfl (by omega) (by omega) cz5
      refine And.intro (NWo_0 hN) (Exists.intro _ (And.intro (NWr_0_42 hN) ?_))
      refine And.intro (NWi_26 hN (vi rfl (by omega))) ?_
      rw [nI_clamp (show j9 < 2 ^ 31 by omega)]
      rw [pp_J2 (y := q) (f := 26) (by omega) (by decide)]
      refine And.intro (fun cz12 => ?_) (fun cz12 => ?_)
      · -- 12 taken: ¬ lg_cmp (L 26 j9) c = 0
        show Jj sc d 0 0 (mth 196) (pg P196 2).1 [some (.ref q), some (.long c), none, some (.int (nI j9 + nI 1))] [] (pp m 142 3 D K q 29 E L) 0 0 Q
        rw [show nI j9 + nI 1 = nI (j9 + 1) from by simp only [nI_add, pk_mul]]
        rw [(hNR.2.2 j9 kz5).1] at cz12
        have hall2 : ∀ j1, j1 < j9 + 1 → ¬ T.2.1 j1 = c := by
          intro v9 h9
          rcases Nat.lt_or_ge v9 j9 with q9 | q9
          · exact hall v9 q9
          · have ez9 : v9 = j9 := by omega
            rw [ez9]
            exact (fun z => cz12 (lg0.mpr z))
        exact ih (j9 + 1) (by omega) (by omega) hall2
      · -- 12 not: lg_cmp (L 26 j9) c = 0
        refine And.intro ⟨rfl, trivial, Nat.le_refl _, Nat.le_refl _⟩ ?_
        rw [(hNR.2.2 j9 kz5).1] at cz12
        have ez9 := fdQ_u (k := T.1) hall (fun _ => lg0.mp cz12) (by omega)
        rw [ez9] at hQ
        exact hQ (by omega)
theorem D196 {d : Nat} {m : Mm} {Q : Option Value → Mm → Prop} {q : Nat} {E : Nat → Nat → Int32} {L : Nat → Nat → Int64} (hW : Wd m.2.2) (hN : NW m.2.2 q) (hdq : q + 29 ≤ 142 ∨ 142 + 3 ≤ q) {D : Nat → Nat → Int32} {K : Nat → Nat → Int64} {T : NT} (hNR : NR T E L) {c : Int64} (hQ : fdQ T.2.1 c T.1 < T.1 → Q (some (.int (nI (fdQ T.2.1 c T.1)))) (pp m 142 3 D K q 29 E L)) (hM : ¬ fdQ T.2.1 c T.1 < T.1 → Q (some (.int (-nI 1))) (pp m 142 3 D K q 29 E L))  : Cc d 0 0 196 [.ref q, .long c] (pp m 142 3 D K q 29 E L) Q := by
  refine ent (n := 58) z196 (by decide) rfl (by decide) (Nat.le_of_ble_eq_true rfl) (fun sc => ?_)
  show Jj sc d 0 0 (mth 196) (pg P196 2).1 [some (.ref q), some (.long c), none, some (.int (nI 0))] [] (pp m 142 3 D K q 29 E L) 0 0 Q
  exact lq196 hW hN hdq hNR hQ hM (T.1 + 1) 0 (Nat.zero_le _) (by omega) (fun _ h => absurd h (by omega))
theorem L221 {d : Nat} {m : Mm} {Q : Option Value → Mm → Prop} {q : Nat} {E : Nat → Nat → Int32} {L : Nat → Nat → Int64} (hW : Wd m.2.2) (hN : NW m.2.2 q) (hdq : q + 29 ≤ 142 ∨ 142 + 3 ≤ q) {D : Nat → Nat → Int32} {K : Nat → Nat → Int64} (hq4 : va_rf (mR m 142 4) = .ref q) {T : NT} (hNR : NR T E L) {B : Nat → Int32} {n i : Nat} (hR : RBy B n D) (hT : TR B n i D K) (hi : i ≤ n) (h14 : D 0 14 = nI 0) (hd : 8 ≤ d) (hQ : ∀ D1 K1 (v : Int64), RX B n (pTell T.2.1 T.1 B n i) D1 K1 → FY D D1 → (∀ i9 j, (.inr i : Rs Nat) = .inr i9 → pTell T.2.1 T.1 B n i9 = .inr j → v = coT B n i9) → Q (some (.long v)) (pp m 142 3 D1 K1 q 29 E L))  : Cc d 0 0 221 [.ref 142] (pp m 142 3 D K q 29 E L) Q := by
  refine ent (n := 66) z221 (by decide) rfl (by decide) (Nat.le_of_ble_eq_true rfl) (fun sc => ?_)
  refine And.intro ⟨by omega, Nat.le_of_ble_eq_true rfl, Nat.le_refl _, Nat.le_refl _⟩ (And.intro (Wdo_142 hW) ?_)
  refine D219 hW hN hdq hR hT hi h14 (by omega) ?_
  refine And.intro (fun cz2 => ?_) (fun cz2 => ?_)
  · -- 2 taken: ¬ bi (nmP B n i) = 0
    have hm := bi_ne0.mp cz2; have kk2 := hm.1
    refine And.intro (Wdo_142 hW) (Exists.intro _ (And.intro hq4 ?_))
    refine And.intro (Wdo_142 hW) ?_
    rw [pp_J10 (x := 142) (by decide)]
    refine And.intro ⟨by omega, Nat.le_of_ble_eq_true rfl, Nat.le_refl _, Nat.le_refl _⟩ (And.intro (NWo_0 hN) ?_)
    refine D196 hW hN hdq hNR ?_ ?_
    · -- a way behind the call
      intro hf
      refine And.intro (fun cz12 => ?_) (fun cz12 => ?_)
      · -- 12 taken: nI ((fdQ T.2.1 (K 0 17) T.1)) = -nI 1
        exact absurd cz12 (nI_neg1 (by have := hNR.2.1; omega))
      · -- 12 not: ¬ nI ((fdQ T.2.1 (K 0 17) T.1)) = -nI 1
        refine And.intro ⟨by omega, Nat.le_of_ble_eq_true rfl, Nat.le_refl _, Nat.le_refl _⟩ (And.intro (Wdo_142 hW) ?_)
        refine D212 hW hN hdq (fun z => absurd z (sq_5 hT.2.1)) (fun _ => ?_)
        · -- a way behind the call
          rw [show (ud (ud (ud D 0 14 (nI 3)) 0 15 (D 0 10)) 0 9 (nI 5)) = flD D (nI 3) from rfl]
          refine And.intro (Wdo_142 hW) ?_
          rw [pp_J10 (x := 142) (by decide)]
          refine And.intro ⟨by omega, Nat.le_of_ble_eq_true rfl, Nat.le_refl _, Nat.le_refl _⟩ (And.intro (Wdo_142 hW) ?_)
          refine O211 hW hN hdq rfl ?_
          refine And.intro ⟨rfl, rfl, Nat.le_refl _, Nat.le_refl _⟩ ?_
          rw [(hT.2.2.2.1 hm.1).2.1] at hf
          have ew : pTell T.2.1 T.1 B n i = .inl (3, plF B n i) := by unfold pTell; rw [if_pos hm, if_pos hf]
          exact hQ _ _ _ (by rw [ew]; exact RX_f hR hT) FY_f (fun i2 j z e => by cases z; rw [ew] at e; cases e)
    · -- a way behind the call
      intro hf
      refine And.intro (fun cz12 => ?_) (fun cz12 => ?_)
      · -- 12 taken: -nI 1 = -nI 1
        refine And.intro (Wdo_142 hW) ?_
        rw [pp_J10 (x := 142) (by decide)]
        refine And.intro ⟨by omega, Nat.le_of_ble_eq_true rfl, Nat.le_refl _, Nat.le_refl _⟩ (And.intro (Wdo_142 hW) ?_)
        have h8 : D 0 8 = nI (nxF B n i) := hT.2.2.1 (by omega)
        refine D211 (B := B) (n := n) (i := nxF B n i) hW hN hdq (by omega) hR (nxF_le hi) (fun D1 K1 uT uX => ?_) h8 (sq_5 hT.2.1)
        · -- a way behind the call
          refine And.intro ⟨rfl, rfl, Nat.le_refl _, Nat.le_refl _⟩ ?_
          rw [(hT.2.2.2.1 hm.1).2.1] at hf
          have ew : pTell T.2.1 T.1 B n i = .inr (nxF B n i) := by unfold pTell; rw [if_pos hm, if_neg hf]
          exact hQ _ _ _ (by rw [ew]; exact (RX_l hR uX uT (nxF_le hi) h14)) (FY_x uX) (fun i2 j z e => by cases z; exact (hT.2.2.2.1 hm.1).2.1)
      · -- 12 not: ¬ -nI 1 = -nI 1
        exact absurd rfl cz12
  · -- 2 not: bi (nmP B n i) = 0
    refine And.intro ⟨by omega, Nat.le_of_ble_eq_true rfl, Nat.le_refl _, Nat.le_refl _⟩ (And.intro (Wdo_142 hW) ?_)
    refine D212 hW hN hdq (fun z => absurd z (sq_5 hT.2.1)) (fun _ => ?_)
    · -- a way behind the call
      rw [show (ud (ud (ud D 0 14 (nI 1)) 0 15 (D 0 10)) 0 9 (nI 5)) = flD D (nI 1) from rfl]
      refine And.intro (Wdo_142 hW) (Exists.intro _ (And.intro hq4 ?_))
      refine And.intro (Wdo_142 hW) ?_
      rw [pp_J10 (x := 142) (by decide)]
      refine And.intro ⟨by omega, Nat.le_of_ble_eq_true rfl, Nat.le_refl _, Nat.le_refl _⟩ (And.intro (NWo_0 hN) ?_)
      refine D196 hW hN hdq hNR ?_ ?_
      · -- a way behind the call
        intro hf
        refine And.intro (fun cz12 => ?_) (fun cz12 => ?_)
        · -- 12 taken: nI ((fdQ T.2.1 (K 0 17) T.1)) = -nI 1
          exact absurd cz12 (nI_neg1 (by have := hNR.2.1; omega))
        · -- 12 not: ¬ nI ((fdQ T.2.1 (K 0 17) T.1)) = -nI 1
          refine And.intro ⟨by omega, Nat.le_of_ble_eq_true rfl, Nat.le_refl _, Nat.le_refl _⟩ (And.intro (Wdo_142 hW) ?_)
          refine D212 hW hN hdq (fun _ => ?_) (fun z => absurd rfl z)
          refine And.intro (Wdo_142 hW) ?_
          rw [pp_J10 (x := 142) (by decide)]
          refine And.intro ⟨by omega, Nat.le_of_ble_eq_true rfl, Nat.le_refl _, Nat.le_refl _⟩ (And.intro (Wdo_142 hW) ?_)
          refine O211 hW hN hdq rfl ?_
          refine And.intro ⟨rfl, rfl, Nat.le_refl _, Nat.le_refl _⟩ ?_
          have ew : pTell T.2.1 T.1 B n i = .inl (1, plF B n i) := if_neg (bi_eq0.mp cz2)
          exact hQ _ _ _ (by rw [ew]; exact RX_f hR hT) FY_f (fun i2 j z e => by cases z; rw [ew] at e; cases e)
      · -- a way behind the call
        intro hf
        refine And.intro (fun cz12 => ?_) (fun cz12 => ?_)
        · -- 12 taken: -nI 1 = -nI 1
          refine And.intro (Wdo_142 hW) ?_
          rw [pp_J10 (x := 142) (by decide)]
          refine And.intro ⟨by omega, Nat.le_of_ble_eq_true rfl, Nat.le_refl _, Nat.le_refl _⟩ (And.intro (Wdo_142 hW) ?_)
          refine O211 hW hN hdq rfl ?_
          refine And.intro ⟨rfl, rfl, Nat.le_refl _, Nat.le_refl _⟩ ?_
          have ew : pTell T.2.1 T.1 B n i = .inl (1, plF B n i) := if_neg (bi_eq0.mp cz2)
          exact hQ _ _ _ (by rw [ew]; exact RX_f hR hT) FY_f (fun i2 j z e => by cases z; rw [ew] at e; cases e)
        · -- 12 not: ¬ -nI 1 = -nI 1
          exact absurd rfl cz12
theorem O221 {d : Nat} {m : Mm} {Q : Option Value → Mm → Prop} {q : Nat} {E : Nat → Nat → Int32} {L : Nat → Nat → Int64} (hW : Wd m.2.2) (hN : NW m.2.2 q) (hdq : q + 29 ≤ 142 ∨ 142 + 3 ≤ q) {D : Nat → Nat → Int32} {K : Nat → Nat → Int64} (hq4 : va_rf (mR m 142 4) = .ref q) {T : NT} (hNR : NR T E L) {B : Nat → Int32} {n : Nat} {e : Nat × Nat} (hX : RX B n (.inl e) D K) (hd : 8 ≤ d) (hQ : ∀ D1 K1 (v : Int64), RX B n (.inl e) D1 K1 → FY D D1 → (∀ i9 j, (.inl e : Rs Nat) = .inr i9 → pTell T.2.1 T.1 B n i9 = .inr j → v = coT B n i9) → Q (some (.long v)) (pp m 142 3 D1 K1 q 29 E L))  : Cc d 0 0 221 [.ref 142] (pp m 142 3 D K q 29 E L) Q := by
  refine ent (n := 66) z221 (by decide) rfl (by decide) (Nat.le_of_ble_eq_true rfl) (fun sc => ?_)
  refine And.intro ⟨by omega, Nat.le_of_ble_eq_true rfl, Nat.le_refl _, Nat.le_refl _⟩ (And.intro (Wdo_142 hW) ?_)
  refine O219 hW hN hdq hX.2.1 ?_
  refine And.intro (fun cz2 => False.elim (absurd cz2 (by decide))) (fun cz2 => ?_)
  refine And.intro ⟨by omega, Nat.le_of_ble_eq_true rfl, Nat.le_refl _, Nat.le_refl _⟩ (And.intro (Wdo_142 hW) ?_)
  refine D212 hW hN hdq (fun _ => ?_) (fun z => absurd hX.2.1 z)
  refine And.intro (Wdo_142 hW) (Exists.intro _ (And.intro hq4 ?_))
  refine And.intro (Wdo_142 hW) ?_
  rw [pp_J10 (x := 142) (by decide)]
  refine And.intro ⟨by omega, Nat.le_of_ble_eq_true rfl, Nat.le_refl _, Nat.le_refl _⟩ (And.intro (NWo_0 hN) ?_)
  refine D196 hW hN hdq hNR ?_ ?_
  · -- a way behind the call
    intro hf
    refine And.intro (fun cz12 => ?_) (fun cz12 => ?_)
    · -- 12 taken: nI ((fdQ T.2.1 (K 0 17) T.1)) = -nI 1
      exact absurd cz12 (nI_neg1 (by have := hNR.2.1; omega))
    · -- 12 not: ¬ nI ((fdQ T.2.1 (K 0 17) T.1)) = -nI 1
      refine And.intro ⟨by omega, Nat.le_of_ble_eq_true rfl, Nat.le_refl _, Nat.le_refl _⟩ (And.intro (Wdo_142 hW) ?_)
      refine D212 hW hN hdq (fun _ => ?_) (fun z => absurd hX.2.1 z)
      refine And.intro (Wdo_142 hW) ?_
      rw [pp_J10 (x := 142) (by decide)]
      refine And.intro ⟨by omega, Nat.le_of_ble_eq_true rfl, Nat.le_refl _, Nat.le_refl _⟩ (And.intro (Wdo_142 hW) ?_)
      refine O211 hW hN hdq hX.2.1 ?_
      refine And.intro ⟨rfl, rfl, Nat.le_refl _, Nat.le_refl _⟩ ?_
      exact hQ _ _ _ hX FY_r (fun i j z => by cases z)
  · -- a way behind the call
    intro hf
    refine And.intro (fun cz12 => ?_) (fun cz12 => ?_)
    · -- 12 taken: -nI 1 = -nI 1
      refine And.intro (Wdo_142 hW) ?_
      rw [pp_J10 (x := 142) (by decide)]
      refine And.intro ⟨by omega, Nat.le_of_ble_eq_true rfl, Nat.le_refl _, Nat.le_refl _⟩ (And.intro (Wdo_142 hW) ?_)
      refine O211 hW hN hdq hX.2.1 ?_
      refine And.intro ⟨rfl, rfl, Nat.le_refl _, Nat.le_refl _⟩ ?_
      exact hQ _ _ _ hX FY_r (fun i j z => by cases z)
    · -- 12 not: ¬ -nI 1 = -nI 1
      exact absurd rfl cz12
theorem X221 {d : Nat} {m : Mm} {Q : Option Value → Mm → Prop} {q : Nat} {E : Nat → Nat → Int32} {L : Nat → Nat → Int64} (hW : Wd m.2.2) (hN : NW m.2.2 q) (hdq : q + 29 ≤ 142 ∨ 142 + 3 ≤ q) {D : Nat → Nat → Int32} {K : Nat → Nat → Int64} (hq4 : va_rf (mR m 142 4) = .ref q) {T : NT} (hNR : NR T E L) {B : Nat → Int32} {n : Nat} {X : Rs Nat} (hX : RX B n X D K) (hd : 8 ≤ d) (hQ : ∀ D1 K1 (v : Int64), RX B n (rb X (fun i => pTell T.2.1 T.1 B n i)) D1 K1 → FY D D1 → (∀ i9 j, X = .inr i9 → pTell T.2.1 T.1 B n i9 = .inr j → v = coT B n i9) → Q (some (.long v)) (pp m 142 3 D1 K1 q 29 E L)) : Cc d 0 0 221 [.ref 142] (pp m 142 3 D K q 29 E L) Q := by
  cases X with
  | inl e => exact O221 hW hN hdq hq4 hNR hX hd hQ
  | inr i => exact L221 hW hN hdq hq4 hNR hX.1 hX.2.1 hX.2.2.1 hX.2.2.2 hd hQ
theorem NR_s {T : NT} {E : Nat → Nat → Int32} {L : Nat → Nat → Int64} {j so : Nat} (h : NR T E L) (hj : j < T.1) (hs : so = 2 ∨ so = 4 ∨ so = 8 ∨ so = 10) : E 27 j = nI (rsn so) ↔ T.2.2.1 j = nI so := by
  obtain ⟨-, -, s, h1, h2, h3⟩ := h.2.2 j hj
  rw [h2, h3]
  rcases h1 with rfl | rfl | rfl | rfl <;> rcases hs with rfl | rfl | rfl | rfl <;> decide
theorem L223 {d : Nat} {m : Mm} {Q : Option Value → Mm → Prop} {q : Nat} {E : Nat → Nat → Int32} {L : Nat → Nat → Int64} (hW : Wd m.2.2) (hN : NW m.2.2 q) (hdq : q + 29 ≤ 142 ∨ 142 + 3 ≤ q) {D : Nat → Nat → Int32} {K : Nat → Nat → Int64} {so : Nat} (hso : so = 2 ∨ so = 4 ∨ so = 8 ∨ so = 10) (hq4 : va_rf (mR m 142 4) = .ref q) {T : NT} (hNR : NR T E L) {B : Nat → Int32} {n i : Nat} (hR : RBy B n D) (hT : TR B n i D K) (hi : i ≤ n) (h14 : D 0 14 = nI 0) (hd : 8 ≤ d) (hQ : ∀ D1 K1 (v : Int32), RX B n (rb (tUse T so B n i) fun _ => .inr i) D1 K1 → FY D D1 → (∀ i9 a j, (.inr i : Rs Nat) = .inr i9 → tUse T so B n i9 = .inr (a, j) → v = a) → Q (some (.int v)) (pp m 142 3 D1 K1 q 29 E L))  : Cc d 0 0 223 [.ref 142, .int (nI (rsn so))] (pp m 142 3 D K q 29 E L) Q := by
  refine ent (n := 94) z223 (by decide) rfl (by decide) (Nat.le_of_ble_eq_true rfl) (fun sc => ?_)
  refine And.intro ⟨by omega, Nat.le_of_ble_eq_true rfl, Nat.le_refl _, Nat.le_refl _⟩ (And.intro (Wdo_142 hW) ?_)
  refine D219 hW hN hdq hR hT hi h14 (by omega) ?_
  refine And.intro (fun cz2 => ?_) (fun cz2 => ?_)
  · -- 2 taken: ¬ bi (nmP B n i) = 0
    have hm := bi_ne0.mp cz2; have kk2 := hm.1
    refine And.intro (Wdo_142 hW) (Exists.intro _ (And.intro hq4 ?_))
    refine And.intro (Wdo_142 hW) ?_
    rw [pp_J10 (x := 142) (by decide)]
    refine And.intro ⟨by omega, Nat.le_of_ble_eq_true rfl, Nat.le_refl _, Nat.le_refl _⟩ (And.intro (NWo_0 hN) ?_)
    refine D196 hW hN hdq hNR ?_ ?_
    · -- a way behind the call
      intro hf
      refine And.intro (fun cz14 => ?_) (fun cz14 => ?_)
      · -- 14 taken: nI ((fdQ T.2.1 (K 0 17) T.1)) = -nI 1
        exact absurd cz14 (nI_neg1 (by have := hNR.2.1; omega))
      · -- 14 not: ¬ nI ((fdQ T.2.1 (K 0 17) T.1)) = -nI 1
        have hk24 := hNR.2.1
        refine And.intro (Wdo_142 hW) (Exists.intro _ (And.intro hq4 ?_))
        refine And.intro (NWo_0 hN) (Exists.intro _ (And.intro (NWr_0_43 hN) ?_))
        refine And.intro (NWi_27 hN (vi rfl (by omega))) ?_
        rw [nI_clamp (show (fdQ T.2.1 (K 0 17) T.1) < 2 ^ 31 by omega)]
        rw [pp_2 (y := q) (f := 27) (by omega) (by decide)]
        refine And.intro (fun cz21 => ?_) (fun cz21 => ?_)
        · -- 21 taken: E 27 ((fdQ T.2.1 (K 0 17) T.1)) = nI (rsn so)
          refine And.intro (Wdo_142 hW) ?_
          rw [pp_10 (x := 142) (by decide)]
          refine And.intro (fun cz28 => ?_) (fun cz28 => ?_)
          · -- 28 taken: ¬ D 0 9 = nI 5
            have hk24 := hNR.2.1
            refine And.intro (Wdo_142 hW) (Exists.intro _ (And.intro hq4 ?_))
            refine And.intro (NWo_0 hN) (Exists.intro _ (And.intro (NWr_0_44 hN) ?_))
            refine And.intro (NWi_28 hN (vi rfl (by omega))) ?_
            rw [nI_clamp (show (fdQ T.2.1 (K 0 17) T.1) < 2 ^ 31 by omega)]
            rw [pp_2 (y := q) (f := 28) (by omega) (by decide)]
            refine And.intro ⟨rfl, trivial, Nat.le_refl _, Nat.le_refl _⟩ ?_
            rw [(hT.2.2.2.1 hm.1).2.1] at hf
            rw [(hT.2.2.2.1 hm.1).2.1, NR_s hNR hf hso] at cz21
            have ew : tUse T so B n i = .inr (T.2.2.2 (fdQ T.2.1 (coT B n i) T.1), nxF B n i) := by unfold tUse pUse; rw [if_pos hm, if_pos ⟨hf, cz21⟩]
            exact hQ _ _ _ (by rw [ew]; exact ⟨hR, hT, hi, h14⟩) FY_r (fun i2 a j z e => by cases z; rw [ew] at e; cases e; rw [(hT.2.2.2.1 hm.1).2.1]; exact (hNR.2.2 _ hf).2.1)
          · -- 28 not: D 0 9 = nI 5
            exact absurd cz28 (sq_5 hT.2.1)
        · -- 21 not: ¬ E 27 ((fdQ T.2.1 (K 0 17) T.1)) = nI (rsn so)
          refine And.intro ⟨by omega, Nat.le_of_ble_eq_true rfl, Nat.le_refl _, Nat.le_refl _⟩ (And.intro (Wdo_142 hW) ?_)
          refine D212 hW hN hdq (fun z => absurd z (sq_5 hT.2.1)) (fun _ => ?_)
          · -- a way behind the call
            rw [show (ud (ud (ud D 0 14 (nI 2)) 0 15 (D 0 10)) 0 9 (nI 5)) = flD D (nI 2) from rfl]
            refine And.intro (Wdo_142 hW) ?_
            rw [pp_10 (x := 142) (by decide)]
            refine And.intro (fun cz28 => ?_) (fun cz28 => ?_)
            · -- 28 taken: ¬ (flD D (nI 2)) 0 9 = nI 5
              exact absurd rfl cz28
            · -- 28 not: (flD D (nI 2)) 0 9 = nI 5
              refine And.intro ⟨rfl, trivial, Nat.le_refl _, Nat.le_refl _⟩ ?_
              rw [(hT.2.2.2.1 hm.1).2.1] at hf
              rw [(hT.2.2.2.1 hm.1).2.1, NR_s hNR hf hso] at cz21
              have ew : tUse T so B n i = .inl (2, plF B n i) := by unfold tUse pUse; rw [if_pos hm, if_neg (fun z => cz21 z.2)]
              exact hQ _ _ _ (by rw [ew]; exact RX_f hR hT) FY_f (fun i2 a j z e => by cases z; rw [ew] at e; cases e)
    · -- a way behind the call
      intro hf
      refine And.intro (fun cz14 => ?_) (fun cz14 => ?_)
      · -- 14 taken: -nI 1 = -nI 1
        refine And.intro ⟨by omega, Nat.le_of_ble_eq_true rfl, Nat.le_refl _, Nat.le_refl _⟩ (And.intro (Wdo_142 hW) ?_)
        refine D212 hW hN hdq (fun z => absurd z (sq_5 hT.2.1)) (fun _ => ?_)
        · -- a way behind the call
          rw [show (ud (ud (ud D 0 14 (nI 2)) 0 15 (D 0 10)) 0 9 (nI 5)) = flD D (nI 2) from rfl]
          refine And.intro (Wdo_142 hW) ?_
          rw [pp_10 (x := 142) (by decide)]
          refine And.intro (fun cz28 => ?_) (fun cz28 => ?_)
          · -- 28 taken: ¬ (flD D (nI 2)) 0 9 = nI 5
            exact absurd rfl cz28
          · -- 28 not: (flD D (nI 2)) 0 9 = nI 5
            refine And.intro ⟨rfl, trivial, Nat.le_refl _, Nat.le_refl _⟩ ?_
            rw [(hT.2.2.2.1 hm.1).2.1] at hf
            have ew : tUse T so B n i = .inl (2, plF B n i) := by unfold tUse pUse; rw [if_pos hm, if_neg (fun z => hf z.1)]
            exact hQ _ _ _ (by rw [ew]; exact RX_f hR hT) FY_f (fun i2 a j z e => by cases z; rw [ew] at e; cases e)
      · -- 14 not: ¬ -nI 1 = -nI 1
        exact absurd rfl cz14
  · -- 2 not: bi (nmP B n i) = 0
    refine And.intro ⟨by omega, Nat.le_of_ble_eq_true rfl, Nat.le_refl _, Nat.le_refl _⟩ (And.intro (Wdo_142 hW) ?_)
    refine D212 hW hN hdq (fun z => absurd z (sq_5 hT.2.1)) (fun _ => ?_)
    · -- a way behind the call
      rw [show (ud (ud (ud D 0 14 (nI 1)) 0 15 (D 0 10)) 0 9 (nI 5)) = flD D (nI 1) from rfl]
      refine And.intro (Wdo_142 hW) (Exists.intro _ (And.intro hq4 ?_))
      refine And.intro (Wdo_142 hW) ?_
      rw [pp_J10 (x := 142) (by decide)]
      refine And.intro ⟨by omega, Nat.le_of_ble_eq_true rfl, Nat.le_refl _, Nat.le_refl _⟩ (And.intro (NWo_0 hN) ?_)
      refine D196 hW hN hdq hNR ?_ ?_
      · -- a way behind the call
        intro hf
        refine And.intro (fun cz14 => ?_) (fun cz14 => ?_)
        · -- 14 taken: nI ((fdQ T.2.1 (K 0 17) T.1)) = -nI 1
          exact absurd cz14 (nI_neg1 (by have := hNR.2.1; omega))
        · -- 14 not: ¬ nI ((fdQ T.2.1 (K 0 17) T.1)) = -nI 1
          have hk24 := hNR.2.1
          refine And.intro (Wdo_142 hW) (Exists.intro _ (And.intro hq4 ?_))
          refine And.intro (NWo_0 hN) (Exists.intro _ (And.intro (NWr_0_43 hN) ?_))
          refine And.intro (NWi_27 hN (vi rfl (by omega))) ?_
          rw [nI_clamp (show (fdQ T.2.1 (K 0 17) T.1) < 2 ^ 31 by omega)]
          rw [pp_2 (y := q) (f := 27) (by omega) (by decide)]
          refine And.intro (fun cz21 => ?_) (fun cz21 => ?_)
          · -- 21 taken: E 27 ((fdQ T.2.1 (K 0 17) T.1)) = nI (rsn so)
            refine And.intro (Wdo_142 hW) ?_
            rw [pp_10 (x := 142) (by decide)]
            refine And.intro (fun cz28 => ?_) (fun cz28 => ?_)
            · -- 28 taken: ¬ (flD D (nI 1)) 0 9 = nI 5
              exact absurd rfl cz28
            · -- 28 not: (flD D (nI 1)) 0 9 = nI 5
              refine And.intro ⟨rfl, trivial, Nat.le_refl _, Nat.le_refl _⟩ ?_
              have ew : tUse T so B n i = .inl (1, plF B n i) := if_neg (bi_eq0.mp cz2)
              exact hQ _ _ _ (by rw [ew]; exact RX_f hR hT) FY_f (fun i2 a j z e => by cases z; rw [ew] at e; cases e)
          · -- 21 not: ¬ E 27 ((fdQ T.2.1 (K 0 17) T.1)) = nI (rsn so)
            refine And.intro ⟨by omega, Nat.le_of_ble_eq_true rfl, Nat.le_refl _, Nat.le_refl _⟩ (And.intro (Wdo_142 hW) ?_)
            refine D212 hW hN hdq (fun _ => ?_) (fun z => absurd rfl z)
            refine And.intro (Wdo_142 hW) ?_
            rw [pp_10 (x := 142) (by decide)]
            refine And.intro (fun cz28 => ?_) (fun cz28 => ?_)
            · -- 28 taken: ¬ (flD D (nI 1)) 0 9 = nI 5
              exact absurd rfl cz28
            · -- 28 not: (flD D (nI 1)) 0 9 = nI 5
              refine And.intro ⟨rfl, trivial, Nat.le_refl _, Nat.le_refl _⟩ ?_
              have ew : tUse T so B n i = .inl (1, plF B n i) := if_neg (bi_eq0.mp cz2)
              exact hQ _ _ _ (by rw [ew]; exact RX_f hR hT) FY_f (fun i2 a j z e => by cases z; rw [ew] at e; cases e)
      · -- a way behind the call
        intro hf
        refine And.intro (fun cz14 => ?_) (fun cz14 => ?_)
        · -- 14 taken: -nI 1 = -nI 1
          refine And.intro ⟨by omega, Nat.le_of_ble_eq_true rfl, Nat.le_refl _, Nat.le_refl _⟩ (And.intro (Wdo_142 hW) ?_)
          refine D212 hW hN hdq (fun _ => ?_) (fun z => absurd rfl z)
          refine And.intro (Wdo_142 hW) ?_
          rw [pp_10 (x := 142) (by decide)]
          refine And.intro (fun cz28 => ?_) (fun cz28 => ?_)
          · -- 28 taken: ¬ (flD D (nI 1)) 0 9 = nI 5
            exact absurd rfl cz28
          · -- 28 not: (flD D (nI 1)) 0 9 = nI 5
            refine And.intro ⟨rfl, trivial, Nat.le_refl _, Nat.le_refl _⟩ ?_
            have ew : tUse T so B n i = .inl (1, plF B n i) := if_neg (bi_eq0.mp cz2)
            exact hQ _ _ _ (by rw [ew]; exact RX_f hR hT) FY_f (fun i2 a j z e => by cases z; rw [ew] at e; cases e)
        · -- 14 not: ¬ -nI 1 = -nI 1
          exact absurd rfl cz14
theorem O223 {d : Nat} {m : Mm} {Q : Option Value → Mm → Prop} {q : Nat} {E : Nat → Nat → Int32} {L : Nat → Nat → Int64} (hW : Wd m.2.2) (hN : NW m.2.2 q) (hdq : q + 29 ≤ 142 ∨ 142 + 3 ≤ q) {D : Nat → Nat → Int32} {K : Nat → Nat → Int64} {so : Nat} (hso : so = 2 ∨ so = 4 ∨ so = 8 ∨ so = 10) (hq4 : va_rf (mR m 142 4) = .ref q) {T : NT} (hNR : NR T E L) {B : Nat → Int32} {n : Nat} {e : Nat × Nat} (hX : RX B n (.inl e) D K) (hd : 8 ≤ d) (hQ : ∀ D1 K1 (v : Int32), RX B n (.inl e) D1 K1 → FY D D1 → (∀ i9 a j, (.inl e : Rs Nat) = .inr i9 → tUse T so B n i9 = .inr (a, j) → v = a) → Q (some (.int v)) (pp m 142 3 D1 K1 q 29 E L))  : Cc d 0 0 223 [.ref 142, .int (nI (rsn so))] (pp m 142 3 D K q 29 E L) Q := by
  refine ent (n := 94) z223 (by decide) rfl (by decide) (Nat.le_of_ble_eq_true rfl) (fun sc => ?_)
  refine And.intro ⟨by omega, Nat.le_of_ble_eq_true rfl, Nat.le_refl _, Nat.le_refl _⟩ (And.intro (Wdo_142 hW) ?_)
  refine O219 hW hN hdq hX.2.1 ?_
  refine And.intro (fun cz2 => False.elim (absurd cz2 (by decide))) (fun cz2 => ?_)
  refine And.intro ⟨by omega, Nat.le_of_ble_eq_true rfl, Nat.le_refl _, Nat.le_refl _⟩ (And.intro (Wdo_142 hW) ?_)
  refine D212 hW hN hdq (fun _ => ?_) (fun z => absurd hX.2.1 z)
  refine And.intro (Wdo_142 hW) (Exists.intro _ (And.intro hq4 ?_))
  refine And.intro (Wdo_142 hW) ?_
  rw [pp_J10 (x := 142) (by decide)]
  refine And.intro ⟨by omega, Nat.le_of_ble_eq_true rfl, Nat.le_refl _, Nat.le_refl _⟩ (And.intro (NWo_0 hN) ?_)
  refine D196 hW hN hdq hNR ?_ ?_
  · -- a way behind the call
    intro hf
    refine And.intro (fun cz14 => ?_) (fun cz14 => ?_)
    · -- 14 taken: nI ((fdQ T.2.1 (K 0 17) T.1)) = -nI 1
      exact absurd cz14 (nI_neg1 (by have := hNR.2.1; omega))
    · -- 14 not: ¬ nI ((fdQ T.2.1 (K 0 17) T.1)) = -nI 1
      have hk24 := hNR.2.1
      refine And.intro (Wdo_142 hW) (Exists.intro _ (And.intro hq4 ?_))
      refine And.intro (NWo_0 hN) (Exists.intro _ (And.intro (NWr_0_43 hN) ?_))
      refine And.intro (NWi_27 hN (vi rfl (by omega))) ?_
      rw [nI_clamp (show (fdQ T.2.1 (K 0 17) T.1) < 2 ^ 31 by omega)]
      rw [pp_2 (y := q) (f := 27) (by omega) (by decide)]
      refine And.intro (fun cz21 => ?_) (fun cz21 => ?_)
      · -- 21 taken: E 27 ((fdQ T.2.1 (K 0 17) T.1)) = nI (rsn so)
        refine And.intro (Wdo_142 hW) ?_
        rw [pp_10 (x := 142) (by decide)]
        refine And.intro (fun cz28 => ?_) (fun cz28 => ?_)
        · -- 28 taken: ¬ D 0 9 = nI 5
          exact absurd hX.2.1 cz28
        · -- 28 not: D 0 9 = nI 5
          refine And.intro ⟨rfl, trivial, Nat.le_refl _, Nat.le_refl _⟩ ?_
          exact hQ _ _ _ hX FY_r (fun i a j z => by cases z)
      · -- 21 not: ¬ E 27 ((fdQ T.2.1 (K 0 17) T.1)) = nI (rsn so)
        refine And.intro ⟨by omega, Nat.le_of_ble_eq_true rfl, Nat.le_refl _, Nat.le_refl _⟩ (And.intro (Wdo_142 hW) ?_)
        refine D212 hW hN hdq (fun _ => ?_) (fun z => absurd hX.2.1 z)
        refine And.intro (Wdo_142 hW) ?_
        rw [pp_10 (x := 142) (by decide)]
        refine And.intro (fun cz28 => ?_) (fun cz28 => ?_)
        · -- 28 taken: ¬ D 0 9 = nI 5
          exact absurd hX.2.1 cz28
        · -- 28 not: D 0 9 = nI 5
          refine And.intro ⟨rfl, trivial, Nat.le_refl _, Nat.le_refl _⟩ ?_
          exact hQ _ _ _ hX FY_r (fun i a j z => by cases z)
  · -- a way behind the call
    intro hf
    refine And.intro (fun cz14 => ?_) (fun cz14 => ?_)
    · -- 14 taken: -nI 1 = -nI 1
      refine And.intro ⟨by omega, Nat.le_of_ble_eq_true rfl, Nat.le_refl _, Nat.le_refl _⟩ (And.intro (Wdo_142 hW) ?_)
      refine D212 hW hN hdq (fun _ => ?_) (fun z => absurd hX.2.1 z)
      refine And.intro (Wdo_142 hW) ?_
      rw [pp_10 (x := 142) (by decide)]
      refine And.intro (fun cz28 => ?_) (fun cz28 => ?_)
      · -- 28 taken: ¬ D 0 9 = nI 5
        exact absurd hX.2.1 cz28
      · -- 28 not: D 0 9 = nI 5
        refine And.intro ⟨rfl, trivial, Nat.le_refl _, Nat.le_refl _⟩ ?_
        exact hQ _ _ _ hX FY_r (fun i a j z => by cases z)
    · -- 14 not: ¬ -nI 1 = -nI 1
      exact absurd rfl cz14
theorem X223 {d : Nat} {m : Mm} {Q : Option Value → Mm → Prop} {q : Nat} {E : Nat → Nat → Int32} {L : Nat → Nat → Int64} (hW : Wd m.2.2) (hN : NW m.2.2 q) (hdq : q + 29 ≤ 142 ∨ 142 + 3 ≤ q) {D : Nat → Nat → Int32} {K : Nat → Nat → Int64} {so : Nat} (hso : so = 2 ∨ so = 4 ∨ so = 8 ∨ so = 10) (hq4 : va_rf (mR m 142 4) = .ref q) {T : NT} (hNR : NR T E L) {B : Nat → Int32} {n : Nat} {X : Rs Nat} (hX : RX B n X D K) (hd : 8 ≤ d) (hQ : ∀ D1 K1 (v : Int32), RX B n (rb X (fun i => rb (tUse T so B n i) fun _ => .inr i)) D1 K1 → FY D D1 → (∀ i9 a j, X = .inr i9 → tUse T so B n i9 = .inr (a, j) → v = a) → Q (some (.int v)) (pp m 142 3 D1 K1 q 29 E L)) : Cc d 0 0 223 [.ref 142, .int (nI (rsn so))] (pp m 142 3 D K q 29 E L) Q := by
  cases X with
  | inl e => exact O223 hW hN hdq hso hq4 hNR hX hd hQ
  | inr i => exact L223 hW hN hdq hso hq4 hNR hX.1 hX.2.1 hX.2.2.1 hX.2.2.2 hd hQ
