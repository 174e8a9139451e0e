def FY (D D1 : Nat → Nat → Int32) : Prop := D1 1 = D 1 ∧ ∀ k, k < 8 ∨ 15 < k → D1 0 k = D 0 k
theorem FY_x {D D1 : Nat → Nat → Int32} (h : FX D D1) : FY D D1 := ⟨h.1, fun k hk => h.2 k (by omega)⟩
theorem FY_t {D D1 D2 : Nat → Nat → Int32} (h : FY D D1) (g : FY D1 D2) : FY D D2 := ⟨g.1.trans h.1, fun k hk => (g.2 k hk).trans (h.2 k hk)⟩
theorem FY_r {D : Nat → Nat → Int32} : FY D D := ⟨rfl, fun _ _ => rfl⟩
def flD (D : Nat → Nat → Int32) (f : Int32) : Nat → Nat → Int32 := ud (ud (ud D 0 14 f) 0 15 (D 0 10)) 0 9 (nI 5)
theorem FY_f {D : Nat → Nat → Int32} {f : Int32} : FY D (flD D f) := by
  refine ⟨rfl, fun k hk => ?_⟩
  show upd (upd (upd (D 0) 14 _) 15 _) 9 _ k = D 0 k
  rw [upd_o (by omega), upd_o (by omega), upd_o (by omega)]
/-- the reference stands at X: a place, or a fault -/
def RX (B : Nat → Int32) (n : Nat) (X : Rs Nat) (D : Nat → Nat → Int32) (K : Nat → Nat → Int64) : Prop := RBy B n D ∧ match X with
  | .inl e => D 0 9 = nI 5 ∧ D 0 14 = nI e.1 ∧ D 0 15 = nI e.2
  | .inr i => TR B n i D K ∧ i ≤ n ∧ D 0 14 = nI 0
theorem RX_f {B : Nat → Int32} {n i f : Nat} {D : Nat → Nat → Int32} {K : Nat → Nat → Int64} (hR : RBy B n D) (hT : TR B n i D K) : RX B n (.inl (f, plF B n i)) (flD D (nI f)) K := ⟨hR, rfl, rfl, hT.1⟩
theorem RX_l {B : Nat → Int32} {n i : Nat} {D D1 : Nat → Nat → Int32} {K1 : Nat → Nat → Int64} (hR : RBy B n D) (hx : FX D D1) (hT : TR B n i D1 K1) (hi : i ≤ n) (h : D 0 14 = nI 0) : RX B n (.inr i) D1 K1 := ⟨RBy_x hR hx, hT, hi, (hx.2 14 (by omega)).trans h⟩
theorem sq_q {B : Nat → Int32} {n i c : Nat} {D : Nat → Nat → Int32} (h : D 0 9 = nI (sqF (kiF B n i))) (hc : 2 ≤ c) (hc5 : c ≤ 5) : D 0 9 = nI c ↔ kiF B n i = c := by
  have hb := ki_b (B := B) (n := n) (i := i)
  have h1 : sqF (kiF B n i) ≤ 4 := by
    unfold sqF
    split
    · omega
    · split <;> omega
  rw [h, nI_eq (by omega) (by omega)]
  unfold sqF
  constructor
  · intro z
    split at z
    · omega
    · split at z <;> omega
  · intro z
    rw [if_neg (by omega), if_neg (by omega), z]
theorem sq_5 {B : Nat → Int32} {n i : Nat} {D : Nat → Nat → Int32} (h : D 0 9 = nI (sqF (kiF B n i))) : ¬ D 0 9 = nI 5 := fun z => by
  have := (sq_q h (by decide) (by decide)).mp z
  have hb := ki_b (B := B) (n := n) (i := i)
  omega
def woC (l : List Int32) (j : Nat) : Int64 := fo (fun i y => lN 32 * y + ((l.getD i 0 &&& 255) - nI 97 + nI 1).toInt64) (lN 0) j
theorem woC_s {l : List Int32} {j : Nat} : woC l (j + 1) = lN 32 * woC l j + ((l.getD j 0 &&& 255) - nI 97 + nI 1).toInt64 := fo_s
theorem wo_21 : woC (sBy 21) (sBy 21).length = lN 394692 := by decide +kernel
theorem wo_22 : woC (sBy 22) (sBy 22).length = lN 763013 := by decide +kernel
theorem wo_23 : woC (sBy 23) (sBy 23).length = lN 271592 := by decide +kernel
theorem wo_24 : woC (sBy 24) (sBy 24).length = lN 12343 := by decide +kernel
theorem wo_25 : woC (sBy 25) (sBy 25).length = lN 6605428 := by decide +kernel
theorem wo_26 : woC (sBy 26) (sBy 26).length = lN 238804 := by decide +kernel
theorem wo_27 : woC (sBy 27) (sBy 27).length = lN 464036 := by decide +kernel
theorem wo_28 : woC (sBy 28) (sBy 28).length = lN 18935 := by decide +kernel
theorem wo_29 : woC (sBy 29) (sBy 29).length = lN 21243335 := by decide +kernel
theorem wo_30 : woC (sBy 30) (sBy 30).length = lN 414827 := by decide +kernel
theorem wo_31 : woC (sBy 31) (sBy 31).length = lN 7652 := by decide +kernel
theorem wo_32 : woC (sBy 32) (sBy 32).length = lN 8892563 := by decide +kernel
theorem wo_33 : woC (sBy 33) (sBy 33).length = lN 20101267 := by decide +kernel
theorem wo_34 : woC (sBy 34) (sBy 34).length = lN 67155 := by decide +kernel
theorem wo_35 : woC (sBy 35) (sBy 35).length = lN 555803826 := by decide +kernel
theorem wo_36 : woC (sBy 36) (sBy 36).length = lN 3540584 := by decide +kernel
theorem wo_37 : woC (sBy 37) (sBy 37).length = lN 23937287397 := by decide +kernel
theorem wo_38 : woC (sBy 38) (sBy 38).length = lN 20452748 := by decide +kernel
theorem wo_39 : woC (sBy 39) (sBy 39).length = lN 19511 := by decide +kernel
theorem wo_40 : woC (sBy 40) (sBy 40).length = lN 1497 := by decide +kernel
theorem wo_41 : woC (sBy 41) (sBy 41).length = lN 17171758 := by decide +kernel
theorem wo_42 : woC (sBy 42) (sBy 42).length = lN 17383076 := by decide +kernel
theorem wo_43 : woC (sBy 43) (sBy 43).length = lN 10906648243 := by decide +kernel
theorem wo_44 : woC (sBy 44) (sBy 44).length = lN 53875888 := by decide +kernel
theorem wo_45 : woC (sBy 45) (sBy 45).length = lN 17376357 := by decide +kernel
theorem wo_46 : woC (sBy 46) (sBy 46).length = lN 643389619 := by decide +kernel
theorem wo_47 : woC (sBy 47) (sBy 47).length = lN 215533 := by decide +kernel
theorem wo_48 : woC (sBy 48) (sBy 48).length = lN 655 := by decide +kernel
theorem wo_49 : woC (sBy 49) (sBy 49).length = lN 52 := by decide +kernel
theorem wo_50 : woC (sBy 50) (sBy 50).length = lN 278194 := by decide +kernel
theorem wo_51 : woC (sBy 51) (sBy 51).length = lN 658557587 := by decide +kernel
theorem wo_52 : woC (sBy 52) (sBy 52).length = lN 19965396 := by decide +kernel
theorem wo_53 : woC (sBy 53) (sBy 53).length = lN 37011 := by decide +kernel
theorem wo_54 : woC (sBy 54) (sBy 54).length = lN 21015731 := by decide +kernel
theorem wo_55 : woC (sBy 55) (sBy 55).length = lN 21279923 := by decide +kernel
theorem wo_56 : woC (sBy 56) (sBy 56).length = lN 645974195 := by decide +kernel
theorem wo_57 : woC (sBy 57) (sBy 57).length = lN 25779 := by decide +kernel
theorem wo_58 : woC (sBy 58) (sBy 58).length = lN 463 := by decide +kernel
theorem lq210 {sc : Nat × (Nat → Int32)} {d : Nat} {m : Mm} {Q : Option Value → Mm → Prop} {s0 : Nat} (hd : 4 ≤ d) (hs : s0 < sS.length) (hl : (sBy s0).length < 2 ^ 31) (hQ : Q (some (.long (woC (sBy s0) (sBy s0).length))) m)  : ∀ (j i : Nat), i ≤ (sBy s0).length → (sBy s0).length + 1 ≤ i + j → Jj sc d 0 0 (mth 210) (pg P210 4).1 [some (.ref (1000000 + s0)), some (.long (woC (sBy s0) i)), none, some (.int (nI i))] [] m 0 0 Q := by
  intro j
  induction j with
  | zero => intro i h1 h2; omega
  | succ j ih =>
    intro i h1 h2
    refine J_w z210 (i := 4) (by decide) 70 ?_
    refine And.intro ⟨by omega, Nat.le_of_ble_eq_true rfl, Nat.le_refl _, Nat.le_refl _⟩ (And.intro ⟨Nat.le_add_right _ _, Nat.add_lt_add_left hs _⟩ ?_)
    refine C341 hs (by omega) hl ?_
    refine And.intro (fun cz7 => ?_) (fun cz7 => ?_)
    · -- 7 taken: nI ((sBy s0).length) ≤ nI i
      have kz7 : (sBy s0).length ≤ i := kle (a := (sBy s0).length) (b := i) rfl rfl (by omega) (by omega) cz7
      refine And.intro ⟨rfl, rfl, Nat.le_refl _, Nat.le_refl _⟩ ?_
      rw [show i = (sBy s0).length by omega]
      exact hQ
    · -- 7 not: ¬ nI ((sBy s0).length) ≤ nI i
      have kz7 : i < (sBy s0).length := knle (a := (sBy s0).length) (b := i) rfl rfl (by omega) (by omega) cz7
      refine And.intro ⟨by omega, Nat.le_of_ble_eq_true rfl, Nat.le_refl _, Nat.le_refl _⟩ (And.intro ⟨Nat.le_add_right _ _, Nat.add_lt_add_left hs _⟩ ?_)
      refine C342 hs (x := i) (by omega) (by omega) hl ?_
      show Jj sc d 0 0 (mth 210) (pg P210 4).1 [some (.ref (1000000 + s0)), some (.long (((lN 32) * (woC (sBy s0) i)) + (((((sBy s0).getD i 0 &&& 255) - nI 97) + nI 1).toInt64))), none, some (.int (nI i + nI 1))] [] m 0 0 Q
      rw [show nI i + nI 1 = nI (i + 1) from by simp only [nI_add, pk_mul]]
      have z := ih (i + 1) (by omega) (by omega)
      rw [woC_s] at z
      exact z
theorem C210 {d : Nat} {m : Mm} {Q : Option Value → Mm → Prop} {s0 : Nat} (hd : 4 ≤ d) (hs : s0 < sS.length) (hl : (sBy s0).length < 2 ^ 31) (hQ : Q (some (.long (woC (sBy s0) (sBy s0).length))) m) : Cc d 0 0 210 [.ref (1000000 + s0)] m Q := by
  refine ent (n := 70) z210 (by decide) rfl (by decide) (Nat.le_of_ble_eq_true rfl) (fun sc => ?_)
  show Jj sc d 0 0 (mth 210) (pg P210 4).1 [some (.ref (1000000 + s0)), some (.long (lN 0)), none, some (.int (nI 0))] [] m 0 0 Q
  exact lq210 hd hs hl hQ ((sBy s0).length + 1) 0 (Nat.zero_le _) (by omega)
theorem D213 {d : Nat} {m : Mm} {Q : Option Value → Mm → Prop} {q : Nat} {E : Nat → Nat → Int32} {L : Nat → Nat → Int64} (hW : Wd m.2.2) (hN : NW m.2.2 q) (hdq : q + 29 ≤ 142 ∨ 142 + 3 ≤ q) {D : Nat → Nat → Int32} {K : Nat → Nat → Int64} {s0 : Nat} {w : Int64} (hs : s0 < sS.length) (hl : (sBy s0).length < 2 ^ 31) (hc : woC (sBy s0) (sBy s0).length = w) {B : Nat → Int32} {n i : Nat} (hR : RBy B n D) (hT : TR B n i D K) (hi : i ≤ n) (h14 : D 0 14 = nI 0) (hd : 5 ≤ d) (hQ : Q (some (.int (bi (kiF B n i = 2 ∧ coT B n i = w)))) (pp m 142 3 D K q 29 E L)) : Cc d 0 0 213 [.ref 142, .ref (1000000 + s0)] (pp m 142 3 D K q 29 E L) Q := by
  refine ent (n := 48) z213 (by decide) rfl (by decide) (Nat.le_of_ble_eq_true rfl) (fun sc => ?_)
  refine And.intro (Wdo_142 hW) ?_
  rw [pp_10 (x := 142) (by decide)]
  refine And.intro (fun cz3 => ?_) (fun cz3 => ?_)
  · -- 3 taken: ¬ D 0 9 = nI 2
    refine And.intro ⟨rfl, Or.inl rfl, Nat.le_refl _, Nat.le_refl _⟩ ?_
    rw [bi_f (fun z => cz3 ((sq_q hT.2.1 (by decide) (by decide)).mpr z.1))] at hQ
    exact hQ
  · -- 3 not: D 0 9 = nI 2
    refine And.intro (Wdo_142 hW) ?_
    rw [pp_J10 (x := 142) (by decide)]
    refine And.intro ⟨by omega, Nat.le_of_ble_eq_true rfl, Nat.le_refl _, Nat.le_refl _⟩ ?_
    refine C210 (m := (pp m 142 3 D K q 29 E L)) (s0 := s0) (by omega) hs hl ?_
    rw [hc]
    refine And.intro (fun cz9 => ?_) (fun cz9 => ?_)
    · -- 9 taken: ¬ lg_cmp (K 0 17) w = 0
      refine And.intro ⟨rfl, Or.inl rfl, Nat.le_refl _, Nat.le_refl _⟩ ?_
      have kk2 := (sq_q (c := 2) hT.2.1 (by decide) (by decide)).mp cz3
      rw [(hT.2.2.2.1 kk2).2.1] at cz9
      rw [bi_f (fun z => cz9 (lg0.mpr z.2))] at hQ
      exact hQ
    · -- 9 not: lg_cmp (K 0 17) w = 0
      refine And.intro ⟨rfl, Or.inr rfl, Nat.le_refl _, Nat.le_refl _⟩ ?_
      have kk2 := (sq_q (c := 2) hT.2.1 (by decide) (by decide)).mp cz3
      rw [(hT.2.2.2.1 kk2).2.1] at cz9
      rw [bi_t ⟨kk2, lg0.mp cz9⟩] at hQ
      exact hQ
theorem O213 {d : Nat} {m : Mm} {Q : Option Value → Mm → Prop} {q : Nat} {E : Nat → Nat → Int32} {L : Nat → Nat → Int64} (hW : Wd m.2.2) (hN : NW m.2.2 q) (hdq : q + 29 ≤ 142 ∨ 142 + 3 ≤ q) {D : Nat → Nat → Int32} {K : Nat → Nat → Int64} {s0 : Nat} (h9 : D 0 9 = nI 5) (hQ : Q (some (.int (nI 0))) (pp m 142 3 D K q 29 E L)) : Cc d 0 0 213 [.ref 142, .ref (1000000 + s0)] (pp m 142 3 D K q 29 E L) Q := by
  refine ent (n := 48) z213 (by decide) rfl (by decide) (Nat.le_of_ble_eq_true rfl) (fun sc => ?_)
  refine And.intro (Wdo_142 hW) ?_
  rw [pp_10 (x := 142) (by decide)]
  refine And.intro (fun cz3 => ?_) (fun cz3 => ?_)
  · -- 3 taken: ¬ D 0 9 = nI 2
    refine And.intro ⟨rfl, Or.inl rfl, Nat.le_refl _, Nat.le_refl _⟩ ?_
    exact hQ
  · -- 3 not: D 0 9 = nI 2
    rw [h9] at cz3; exact absurd cz3 (by decide)
theorem L215 {d : Nat} {m : Mm} {Q : Option Value → Mm → Prop} {q : Nat} {E : Nat → Nat → Int32} {L : Nat → Nat → Int64} (hW : Wd m.2.2) (hN : NW m.2.2 q) (hdq : q + 29 ≤ 142 ∨ 142 + 3 ≤ q) {D : Nat → Nat → Int32} {K : Nat → Nat → Int64} {s0 : Nat} {w : Int64} (hs : s0 < sS.length) (hl : (sBy s0).length < 2 ^ 31) (hc : woC (sBy s0) (sBy s0).length = w) {B : Nat → Int32} {n i : Nat} (hR : RBy B n D) (hT : TR B n i D K) (hi : i ≤ n) (h14 : D 0 14 = nI 0) (hd : 6 ≤ d) (hQ : ∀ D1 K1, RX B n (pWord w B n i) D1 K1 → FY D D1 → Q (none) (pp m 142 3 D1 K1 q 29 E L))  : Cc d 0 0 215 [.ref 142, .ref (1000000 + s0)] (pp m 142 3 D K q 29 E L) Q := by
  refine ent (n := 40) z215 (by decide) rfl (by decide) (Nat.le_of_ble_eq_true rfl) (fun sc => ?_)
  refine And.intro ⟨by omega, Nat.le_of_ble_eq_true rfl, Nat.le_refl _, Nat.le_refl _⟩ (And.intro (Wdo_142 hW) ?_)
  refine D213 (s0 := s0) hW hN hdq hs hl hc hR hT hi h14 (by omega) ?_
  refine And.intro (fun cz3 => ?_) (fun cz3 => ?_)
  · -- 3 taken: ¬ bi (kiF B n i = 2 ∧ coT B n i = w) = 0
    have kk2 := (bi_ne0.mp cz3).1
    refine And.intro ⟨by omega, Nat.le_of_ble_eq_true rfl, Nat.le_refl _, Nat.le_refl _⟩ (And.intro (Wdo_142 hW) ?_)
    have h8 : D 0 8 = nI (nxF B n i) := hT.2.2.1 (by omega)
    refine D211 (B := B) (n := n) (i := nxF B n i) hW hN hdq (by omega) hR (nxF_le hi) (fun D1 K1 uT uX => ?_) h8 (sq_5 hT.2.1)
    · -- a way behind the call
      refine And.intro ⟨rfl, rfl, Nat.le_refl _, Nat.le_refl _⟩ ?_
      exact hQ _ _ (by rw [show pWord w B n i = .inr (nxF B n i) from if_pos (bi_ne0.mp cz3)]; exact (RX_l hR uX uT (nxF_le hi) h14)) (FY_x uX)
  · -- 3 not: bi (kiF B n i = 2 ∧ coT B n i = w) = 0
    refine And.intro ⟨by omega, Nat.le_of_ble_eq_true rfl, Nat.le_refl _, Nat.le_refl _⟩ (And.intro (Wdo_142 hW) ?_)
    refine D212 hW hN hdq (fun z => absurd z (sq_5 hT.2.1)) (fun _ => ?_)
    · -- a way behind the call
      rw [show (ud (ud (ud D 0 14 (nI 1)) 0 15 (D 0 10)) 0 9 (nI 5)) = flD D (nI 1) from rfl]
      refine And.intro ⟨by omega, Nat.le_of_ble_eq_true rfl, Nat.le_refl _, Nat.le_refl _⟩ (And.intro (Wdo_142 hW) ?_)
      refine O211 hW hN hdq rfl ?_
      refine And.intro ⟨rfl, rfl, Nat.le_refl _, Nat.le_refl _⟩ ?_
      exact hQ _ _ (by rw [show pWord w B n i = .inl (1, plF B n i) from if_neg (bi_eq0.mp cz3)]; exact RX_f hR hT) FY_f
theorem O215 {d : Nat} {m : Mm} {Q : Option Value → Mm → Prop} {q : Nat} {E : Nat → Nat → Int32} {L : Nat → Nat → Int64} (hW : Wd m.2.2) (hN : NW m.2.2 q) (hdq : q + 29 ≤ 142 ∨ 142 + 3 ≤ q) {D : Nat → Nat → Int32} {K : Nat → Nat → Int64} {s0 : Nat} {w : Int64} (hs : s0 < sS.length) (hl : (sBy s0).length < 2 ^ 31) (hc : woC (sBy s0) (sBy s0).length = w) {B : Nat → Int32} {n : Nat} {e : Nat × Nat} (hX : RX B n (.inl e) D K) (hd : 6 ≤ d) (hQ : ∀ D1 K1, RX B n (.inl e) D1 K1 → FY D D1 → Q (none) (pp m 142 3 D1 K1 q 29 E L))  : Cc d 0 0 215 [.ref 142, .ref (1000000 + s0)] (pp m 142 3 D K q 29 E L) Q := by
  refine ent (n := 40) z215 (by decide) rfl (by decide) (Nat.le_of_ble_eq_true rfl) (fun sc => ?_)
  refine And.intro ⟨by omega, Nat.le_of_ble_eq_true rfl, Nat.le_refl _, Nat.le_refl _⟩ (And.intro (Wdo_142 hW) ?_)
  refine O213 hW hN hdq hX.2.1 ?_
  refine And.intro (fun cz3 => False.elim (absurd cz3 (by decide))) (fun cz3 => ?_)
  refine And.intro ⟨by omega, Nat.le_of_ble_eq_true rfl, Nat.le_refl _, Nat.le_refl _⟩ (And.intro (Wdo_142 hW) ?_)
  refine D212 hW hN hdq (fun _ => ?_) (fun z => absurd hX.2.1 z)
  refine And.intro ⟨by omega, Nat.le_of_ble_eq_true rfl, Nat.le_refl _, Nat.le_refl _⟩ (And.intro (Wdo_142 hW) ?_)
  refine O211 hW hN hdq hX.2.1 ?_
  refine And.intro ⟨rfl, rfl, Nat.le_refl _, Nat.le_refl _⟩ ?_
  exact hQ _ _ hX FY_r
theorem X215 {d : Nat} {m : Mm} {Q : Option Value → Mm → Prop} {q : Nat} {E : Nat → Nat → Int32} {L : Nat → Nat → Int64} (hW : Wd m.2.2) (hN : NW m.2.2 q) (hdq : q + 29 ≤ 142 ∨ 142 + 3 ≤ q) {D : Nat → Nat → Int32} {K : Nat → Nat → Int64} {s0 : Nat} {w : Int64} (hs : s0 < sS.length) (hl : (sBy s0).length < 2 ^ 31) (hc : woC (sBy s0) (sBy s0).length = w) {B : Nat → Int32} {n : Nat} {X : Rs Nat} (hX : RX B n X D K) (hd : 6 ≤ d) (hQ : ∀ D1 K1, RX B n (rb X (fun i => pWord w B n i)) D1 K1 → FY D D1 → Q (none) (pp m 142 3 D1 K1 q 29 E L)) : Cc d 0 0 215 [.ref 142, .ref (1000000 + s0)] (pp m 142 3 D K q 29 E L) Q := by
  cases X with
  | inl e => exact O215 hW hN hdq hs hl hc hX hd hQ
  | inr i => exact L215 hW hN hdq hs hl hc hX.1 hX.2.1 hX.2.2.1 hX.2.2.2 hd hQ
theorem L216 {d : Nat} {m : Mm} {Q : Option Value → Mm → Prop} {q : Nat} {E : Nat → Nat → Int32} {L : Nat → Nat → Int64} (hW : Wd m.2.2) (hN : NW m.2.2 q) (hdq : q + 29 ≤ 142 ∨ 142 + 3 ≤ q) {D : Nat → Nat → Int32} {K : Nat → Nat → Int64} {w : Int32} {B : Nat → Int32} {n i : Nat} (hR : RBy B n D) (hT : TR B n i D K) (hi : i ≤ n) (h14 : D 0 14 = nI 0) (hd : 6 ≤ d) (hQ : ∀ D1 K1, RX B n (pSign w B n i) D1 K1 → FY D D1 → Q (none) (pp m 142 3 D1 K1 q 29 E L))  : Cc d 0 0 216 [.ref 142, .int w] (pp m 142 3 D K q 29 E L) Q := by
  refine ent (n := 48) z216 (by decide) rfl (by decide) (Nat.le_of_ble_eq_true rfl) (fun sc => ?_)
  refine And.intro (Wdo_142 hW) ?_
  rw [pp_10 (x := 142) (by decide)]
  refine And.intro (fun cz3 => ?_) (fun cz3 => ?_)
  · -- 3 taken: ¬ D 0 9 = nI 4
    refine And.intro ⟨by omega, Nat.le_of_ble_eq_true rfl, Nat.le_refl _, Nat.le_refl _⟩ (And.intro (Wdo_142 hW) ?_)
    refine D212 hW hN hdq (fun z => absurd z (sq_5 hT.2.1)) (fun _ => ?_)
    · -- a way behind the call
      rw [show (ud (ud (ud D 0 14 (nI 1)) 0 15 (D 0 10)) 0 9 (nI 5)) = flD D (nI 1) from rfl]
      refine And.intro ⟨by omega, Nat.le_of_ble_eq_true rfl, Nat.le_refl _, Nat.le_refl _⟩ (And.intro (Wdo_142 hW) ?_)
      refine O211 hW hN hdq rfl ?_
      refine And.intro ⟨rfl, rfl, Nat.le_refl _, Nat.le_refl _⟩ ?_
      exact hQ _ _ (by rw [show pSign w B n i = .inl (1, plF B n i) from if_neg (fun z => cz3 ((sq_q hT.2.1 (by decide) (by decide)).mpr z.1))]; exact RX_f hR hT) FY_f
  · -- 3 not: D 0 9 = nI 4
    have kk4 := (sq_q (c := 4) hT.2.1 (by decide) (by decide)).mp cz3
    refine And.intro (Wdo_142 hW) ?_
    rw [pp_10 (x := 142) (by decide)]
    refine And.intro (fun cz7 => ?_) (fun cz7 => ?_)
    · -- 7 taken: D 0 11 = w
      refine And.intro ⟨by omega, Nat.le_of_ble_eq_true rfl, Nat.le_refl _, Nat.le_refl _⟩ (And.intro (Wdo_142 hW) ?_)
      have h8 : D 0 8 = nI (nxF B n i) := hT.2.2.1 (by omega)
      refine D211 (B := B) (n := n) (i := nxF B n i) hW hN hdq (by omega) hR (nxF_le hi) (fun D1 K1 uT uX => ?_) h8 (sq_5 hT.2.1)
      · -- a way behind the call
        refine And.intro ⟨rfl, rfl, Nat.le_refl _, Nat.le_refl _⟩ ?_
        rw [hT.2.2.2.2.2 kk4] at cz7
        exact hQ _ _ (by rw [show pSign w B n i = .inr (nxF B n i) from if_pos ⟨kk4, cz7⟩]; exact (RX_l hR uX uT (nxF_le hi) h14)) (FY_x uX)
    · -- 7 not: ¬ D 0 11 = w
      refine And.intro ⟨by omega, Nat.le_of_ble_eq_true rfl, Nat.le_refl _, Nat.le_refl _⟩ (And.intro (Wdo_142 hW) ?_)
      refine D212 hW hN hdq (fun z => absurd z (sq_5 hT.2.1)) (fun _ => ?_)
      · -- a way behind the call
        rw [show (ud (ud (ud D 0 14 (nI 1)) 0 15 (D 0 10)) 0 9 (nI 5)) = flD D (nI 1) from rfl]
        refine And.intro ⟨by omega, Nat.le_of_ble_eq_true rfl, Nat.le_refl _, Nat.le_refl _⟩ (And.intro (Wdo_142 hW) ?_)
        refine O211 hW hN hdq rfl ?_
        refine And.intro ⟨rfl, rfl, Nat.le_refl _, Nat.le_refl _⟩ ?_
        rw [hT.2.2.2.2.2 kk4] at cz7
        exact hQ _ _ (by rw [show pSign w B n i = .inl (1, plF B n i) from if_neg (fun z => cz7 z.2)]; exact RX_f hR hT) FY_f
theorem O216 {d : Nat} {m : Mm} {Q : Option Value → Mm → Prop} {q : Nat} {E : Nat → Nat → Int32} {L : Nat → Nat → Int64} (hW : Wd m.2.2) (hN : NW m.2.2 q) (hdq : q + 29 ≤ 142 ∨ 142 + 3 ≤ q) {D : Nat → Nat → Int32} {K : Nat → Nat → Int64} {w : Int32} {B : Nat → Int32} {n : Nat} {e : Nat × Nat} (hX : RX B n (.inl e) D K) (hd : 6 ≤ d) (hQ : ∀ D1 K1, RX B n (.inl e) D1 K1 → FY D D1 → Q (none) (pp m 142 3 D1 K1 q 29 E L))  : Cc d 0 0 216 [.ref 142, .int w] (pp m 142 3 D K q 29 E L) Q := by
  refine ent (n := 48) z216 (by decide) rfl (by decide) (Nat.le_of_ble_eq_true rfl) (fun sc => ?_)
  refine And.intro (Wdo_142 hW) ?_
  rw [pp_10 (x := 142) (by decide)]
  refine And.intro (fun cz3 => ?_) (fun cz3 => ?_)
  · -- 3 taken: ¬ D 0 9 = nI 4
    refine And.intro ⟨by omega, Nat.le_of_ble_eq_true rfl, Nat.le_refl _, Nat.le_refl _⟩ (And.intro (Wdo_142 hW) ?_)
    refine D212 hW hN hdq (fun _ => ?_) (fun z => absurd hX.2.1 z)
    refine And.intro ⟨by omega, Nat.le_of_ble_eq_true rfl, Nat.le_refl _, Nat.le_refl _⟩ (And.intro (Wdo_142 hW) ?_)
    refine O211 hW hN hdq hX.2.1 ?_
    refine And.intro ⟨rfl, rfl, Nat.le_refl _, Nat.le_refl _⟩ ?_
    exact hQ _ _ hX FY_r
  · -- 3 not: D 0 9 = nI 4
    rw [hX.2.1] at cz3; exact absurd cz3 (by decide)
theorem X216 {d : Nat} {m : Mm} {Q : Option Value → Mm → Prop} {q : Nat} {E : Nat → Nat → Int32} {L : Nat → Nat → Int64} (hW : Wd m.2.2) (hN : NW m.2.2 q) (hdq : q + 29 ≤ 142 ∨ 142 + 3 ≤ q) {D : Nat → Nat → Int32} {K : Nat → Nat → Int64} {w : Int32} {B : Nat → Int32} {n : Nat} {X : Rs Nat} (hX : RX B n X D K) (hd : 6 ≤ d) (hQ : ∀ D1 K1, RX B n (rb X (fun i => pSign w B n i)) D1 K1 → FY D D1 → Q (none) (pp m 142 3 D1 K1 q 29 E L)) : Cc d 0 0 216 [.ref 142, .int w] (pp m 142 3 D K q 29 E L) Q := by
  cases X with
  | inl e => exact O216 hW hN hdq  hX hd hQ
  | inr i => exact L216 hW hN hdq  hX.1 hX.2.1 hX.2.2.1 hX.2.2.2 hd hQ
