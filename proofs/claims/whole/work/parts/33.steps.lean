/-! ===== what a text asks, step by step: a fault and its place, or a value and the next place ===== -/
abbrev Rs (α : Type) : Type := Sum (Nat × Nat) α
def rb {α β : Type} (x : Rs α) (f : α → Rs β) : Rs β := match x with
  | .inl e => .inl e
  | .inr a => f a
def rsvL : List Int64 := [lN 394692, lN 18935, lN 21243335, lN 414827, lN 7652, lN 8892563, lN 20101267, lN 67155, lN 555803826, lN 3540584, lN 23937287397, lN 20452748, lN 19511, lN 1497]
def soiL : List Int64 := [lN 1, lN 2, lN 3, lN 4, lN 5, lN 1497]
def pWord (c : Int64) (B : Nat → Int32) (n i : Nat) : Rs Nat := if kiF B n i = 2 ∧ coT B n i = c then .inr (nxF B n i) else .inl (1, plF B n i)
def pPick (cs : List Int64) (B : Nat → Int32) (n i : Nat) : Rs (Int32 × Nat) := if kiF B n i = 2 ∧ ¬ ixF (coT B n i) cs (nI 0) = -nI 1 then .inr (ixF (coT B n i) cs (nI 0), nxF B n i) else .inl (1, plF B n i)
def pSign (c : Int32) (B : Nat → Int32) (n i : Nat) : Rs Nat := if kiF B n i = 4 ∧ B (plF B n i) = c then .inr (nxF B n i) else .inl (1, plF B n i)
def pWhole (lo hi : Int32) (B : Nat → Int32) (n i : Nat) : Rs (Int32 × Nat) := if kiF B n i = 3 then (if vaT B n i < lo ∨ hi < vaT B n i then .inl (4, plF B n i) else .inr (vaT B n i, nxF B n i)) else .inl (1, plF B n i)
abbrev nmP (B : Nat → Int32) (n i : Nat) : Prop := kiF B n i = 2 ∧ ixF (coT B n i) rsvL (nI 0) = -nI 1
def fdS (cs : Nat → Int64) (c : Int64) : Nat → Nat → Nat := fun j y => if y = j ∧ ¬ cs j = c then j + 1 else y
def fdQ (cs : Nat → Int64) (c : Int64) (k : Nat) : Nat := fo (fdS cs c) 0 k
theorem fdQ_s {cs : Nat → Int64} {c : Int64} {k : Nat} : fdQ cs c (k + 1) = fdS cs c k (fdQ cs c k) := fo_s
theorem fdQ_i {cs : Nat → Int64} {c : Int64} : ∀ k, fdQ cs c k ≤ k ∧ (∀ j, j < fdQ cs c k → ¬ cs j = c) ∧ (fdQ cs c k < k → cs (fdQ cs c k) = c)
  | 0 => ⟨Nat.le_refl _, fun j h => absurd h (by show ¬ j < 0; omega), fun h => absurd h (by show ¬ (0 : Nat) < 0; omega)⟩
  | k + 1 => by
    obtain ⟨h1, h2, h3⟩ := fdQ_i (cs := cs) (c := c) k
    rw [fdQ_s]
    unfold fdS
    by_cases h : fdQ cs c k = k ∧ ¬ cs k = c
    · rw [if_pos h]
      refine ⟨Nat.le_refl _, fun j hj => ?_, fun z => absurd z (by omega)⟩
      by_cases e : j = k
      · rw [e]; exact h.2
      · exact h2 j (by omega)
    · rw [if_neg h]
      refine ⟨by omega, h2, fun _ => ?_⟩
      by_cases e : fdQ cs c k = k
      · rw [e]; exact Classical.byContradiction fun z => h ⟨e, z⟩
      · exact h3 (by omega)
theorem fdQ_u {cs : Nat → Int64} {c : Int64} {k j : Nat} (h1 : ∀ i, i < j → ¬ cs i = c) (hj : j < k → cs j = c) (hk : j ≤ k) : fdQ cs c k = j := by
  obtain ⟨h2, h3, h4⟩ := fdQ_i (cs := cs) (c := c) k
  rcases Nat.lt_trichotomy (fdQ cs c k) j with q | q | q
  · exact absurd (h4 (by omega)) (h1 _ q)
  · exact q
  · exact absurd (hj (by omega)) (h3 _ q)
def pTell (cs : Nat → Int64) (k : Nat) (B : Nat → Int32) (n i : Nat) : Rs Nat := if nmP B n i then (if fdQ cs (coT B n i) k < k then .inl (3, plF B n i) else .inr (nxF B n i)) else .inl (1, plF B n i)
def pUse (cs : Nat → Int64) (ss ns : Nat → Int32) (k : Nat) (so : Int32) (B : Nat → Int32) (n i : Nat) : Rs (Int32 × Nat) := if nmP B n i then (if fdQ cs (coT B n i) k < k ∧ ss (fdQ cs (coT B n i) k) = so then .inr (ns (fdQ cs (coT B n i) k), nxF B n i) else .inl (2, plF B n i)) else .inl (1, plF B n i)
def pGround (y : Int32) (B : Nat → Int32) (n i : Nat) : Rs (Int32 × Nat) := if kiF B n i = 2 then (if ixF (coT B n i) soiL (nI 0) = -nI 1 ∨ (ixF (coT B n i) soiL (nI 0) = nI 5 ∧ y = 0) then .inl (7, plF B n i) else .inr (if ixF (coT B n i) soiL (nI 0) = nI 5 then -nI 2 else ixF (coT B n i) soiL (nI 0), nxF B n i)) else .inl (1, plF B n i)
/-- the class's reader stands at i, with k names told -/
def RS (B : Nat → Int32) (n k i : Nat) (D : Nat → Nat → Int32) (K : Nat → Nat → Int64) : Prop := TC B n i D K ∧ i ≤ n ∧ n ≤ 1200 ∧ D 0 5 = nI k ∧ D 0 7 = nI 0
/-- a step was good -/
def SU (B : Nat → Int32) (n k i j : Nat) (D : Nat → Nat → Int32) (K : Nat → Nat → Int64) (D1 : Nat → Nat → Int32) (K1 : Nat → Nat → Int64) : Prop := RS B n k j D1 K1 ∧ D1 4 = D 4 ∧ D1 5 = D 5 ∧ K1 3 = K 3 ∧ D1 1 9 = nI (plF B n i)
theorem D84 {d : Nat} {m : Mm} {Q : Option Value → Mm → Prop} {b : Nat} {E : Nat → Nat → Int32} {L : Nat → Nat → Int64} (hW : Wd m.2.2) (hB2 : LW m.2.2 b) (hdj : b + 19 ≤ 87 ∨ 87 + 6 ≤ b) {D : Nat → Nat → Int32} {K : Nat → Nat → Int64} {f : Int32} (hQ : Q (some (.int (nI 0))) (pp m 87 6 (ud (ud D 0 7 f) 0 8 (D 1 5)) K b 19 E L)) : Cc d 0 0 84 [.ref 87, .int f] (pp m 87 6 D K b 19 E L) Q := by
  refine ent (n := 40) z84 (by decide) rfl (by decide) (Nat.le_of_ble_eq_true rfl) (fun sc => ?_)
  refine And.intro (Wdo_87 hW) ?_
  rw [pp_u10 (x := 87) (by decide)]
  refine And.intro (Wdo_87 hW) (Exists.intro _ (And.intro (Wdr_87_0 hW) ?_))
  refine And.intro (Wdo_88 hW) ?_
  rw [pp_1 (x := 87) (f := 1) (by decide)]
  rw [ud_ne (D := D) (f := 0) (g := 1) (by decide)]
  refine And.intro (Wdo_87 hW) ?_
  rw [pp_u10 (x := 87) (by decide)]
  refine And.intro ⟨rfl, Or.inl rfl, Nat.le_refl _, Nat.le_refl _⟩ ?_
  exact hQ
theorem D85 {d : Nat} {m : Mm} {Q : Option Value → Mm → Prop} {b : Nat} {E : Nat → Nat → Int32} {L : Nat → Nat → Int64} (hW : Wd m.2.2) (hB2 : LW m.2.2 b) (hdj : b + 19 ≤ 87 ∨ 87 + 6 ≤ b) {D : Nat → Nat → Int32} {K : Nat → Nat → Int64} {f : Int32} (hQ : Q (some (.int (nI 0))) (pp m 87 6 (ud (ud D 0 7 f) 0 8 (D 1 9)) K b 19 E L)) : Cc d 0 0 85 [.ref 87, .int f] (pp m 87 6 D K b 19 E L) Q := by
  refine ent (n := 40) z85 (by decide) rfl (by decide) (Nat.le_of_ble_eq_true rfl) (fun sc => ?_)
  refine And.intro (Wdo_87 hW) ?_
  rw [pp_u10 (x := 87) (by decide)]
  refine And.intro (Wdo_87 hW) (Exists.intro _ (And.intro (Wdr_87_0 hW) ?_))
  refine And.intro (Wdo_88 hW) ?_
  rw [pp_1 (x := 87) (f := 1) (by decide)]
  rw [ud_ne (D := D) (f := 0) (g := 1) (by decide)]
  refine And.intro (Wdo_87 hW) ?_
  rw [pp_u10 (x := 87) (by decide)]
  refine And.intro ⟨rfl, Or.inl rfl, Nat.le_refl _, Nat.le_refl _⟩ ?_
  exact hQ
theorem ki_b {B : Nat → Int32} {n i : Nat} : kiF B n i ≤ 4 := by
  unfold kiF kiP
  split
  · omega
  · split
    · split <;> omega
    · split
      · split <;> omega
      · split <;> omega
theorem ki_q {B : Nat → Int32} {n i : Nat} {D : Nat → Nat → Int32} {c : Nat} (h : D 1 4 = nI (kiF B n i)) (hc : c ≤ 4) : D 1 4 = nI c ↔ kiF B n i = c := by
  have := ki_b (B := B) (n := n) (i := i)
  rw [h, nI_eq (by omega) (by omega)]
theorem ix1 {c e : Int64} : ixF c [e] (nI 0) = if e = c then nI 0 else -nI 1 := rfl
theorem D76 {d : Nat} {m : Mm} {Q : Option Value → Mm → Prop} {b : Nat} {E : Nat → Nat → Int32} {L : Nat → Nat → Int64} (hW : Wd m.2.2) (hB2 : LW m.2.2 b) (hdj : b + 19 ≤ 87 ∨ 87 + 6 ≤ b) {D : Nat → Nat → Int32} {K : Nat → Nat → Int64} {s0 : Nat} {w0 : Int64} (hs : s0 < sS.length) (hl : (sBy s0).length < 2 ^ 31) (hc : wlC (sBy s0) (lN 0) = [w0]) {B : Nat → Int32} {n k i : Nat} (hd : 8 ≤ d) (hR : RS B n k i D K) (hF : ∀ D1 K1 f p, pWord w0 B n i = .inl (f, p) → D1 0 7 = nI f → D1 0 8 = nI p → D1 1 1 = nI 0 → Q (some (.int (nI 0))) (pp m 87 6 D1 K1 b 19 E L)) (hO : ∀ D1 K1 j, pWord w0 B n i = .inr j → SU B n k i j D K D1 K1 → D1 0 6 = D 0 6 → Q (some (.int (nI 1))) (pp m 87 6 D1 K1 b 19 E L)) : Cc d 0 0 76 [.ref 87, .ref (1000000 + s0)] (pp m 87 6 D K b 19 E L) Q := by
  obtain ⟨hT, hi, hn, h05, h07⟩ := hR
  have tB := hT.1
  have t2 := hT.2.1
  have t5 := hT.2.2.1
  have t4 := hT.2.2.2.1
  have t3 := hT.2.2.2.2.1
  have tw := hT.2.2.2.2.2.1
  have td := hT.2.2.2.2.2.2.1
  have ts := hT.2.2.2.2.2.2.2.1
  have t1 := hT.2.2.2.2.2.2.2.2
  refine ent (n := 50) z76 (by decide) rfl (by decide) (Nat.le_of_ble_eq_true rfl) (fun sc => ?_)
  refine And.intro (Wdo_87 hW) (Exists.intro _ (And.intro (Wdr_87_0 hW) ?_))
  refine And.intro ⟨by omega, Nat.le_of_ble_eq_true rfl, Nat.le_refl _, Nat.le_refl _⟩ (And.intro (Wdo_88 hW) ?_)
  refine D110 (s0 := s0) hW hB2 hdj (by omega) hs hl ?_ ?_
  · -- a way behind the call
    intro h2
    refine And.intro (fun cz5 => ?_) (fun cz5 => ?_)
    · -- 5 taken: ¬ -nI 1 = -nI 1
      refine And.intro (Wdo_87 hW) (Exists.intro _ (And.intro (Wdr_87_0 hW) ?_))
      refine And.intro ⟨by omega, Nat.le_of_ble_eq_true rfl, Nat.le_refl _, Nat.le_refl _⟩ (And.intro (Wdo_88 hW) ?_)
      refine D108 (B := B) (n := n) (i := nxF B n i) (D0 := D) hW hB2 hdj (by omega) hn (nxF_le hi) t2 tB t1 t3 (fun D1 K1 uT u9 u1 uD uK => ?_)
      refine And.intro ⟨rfl, Or.inr rfl, Nat.le_refl _, Nat.le_refl _⟩ ?_
      exact absurd rfl cz5
    · -- 5 not: -nI 1 = -nI 1
      refine And.intro ⟨by omega, Nat.le_of_ble_eq_true rfl, Nat.le_refl _, Nat.le_refl _⟩ (And.intro (Wdo_87 hW) ?_)
      refine D84 hW hB2 hdj ?_
      refine And.intro ⟨rfl, Or.inl rfl, Nat.le_refl _, Nat.le_refl _⟩ ?_
      exact hF _ _ 1 (plF B n i) (if_neg (fun z => h2 ((ki_q t4 (by decide)).mpr z.1))) rfl t5 t1
  · -- a way behind the call
    intro h2
    refine And.intro (fun cz5 => ?_) (fun cz5 => ?_)
    · -- 5 taken: ¬ ixF (K 1 8) (wlC (sBy s0) (lN 0)) (nI 0) = -nI 1
      refine And.intro (Wdo_87 hW) (Exists.intro _ (And.intro (Wdr_87_0 hW) ?_))
      refine And.intro ⟨by omega, Nat.le_of_ble_eq_true rfl, Nat.le_refl _, Nat.le_refl _⟩ (And.intro (Wdo_88 hW) ?_)
      refine D108 (B := B) (n := n) (i := nxF B n i) (D0 := D) hW hB2 hdj (by omega) hn (nxF_le hi) t2 tB t1 t3 (fun D1 K1 uT u9 u1 uD uK => ?_)
      refine And.intro ⟨rfl, Or.inr rfl, Nat.le_refl _, Nat.le_refl _⟩ ?_
      have kk2 := (ki_q (c := 2) t4 (by decide)).mp h2
      rw [hc, ix1, (tw kk2).2] at cz5
      have ez9 : w0 = coT B n i := Classical.byContradiction fun z => cz5 (if_neg z)
      exact hO _ _ _ (if_pos ⟨kk2, ez9.symm⟩) ⟨⟨uT, nxF_le hi, hn, (congrFun (uD 0 (by decide)) 5).trans h05, (congrFun (uD 0 (by decide)) 7).trans h07⟩, uD 4 (by decide), uD 5 (by decide), uK 3 (by decide), u9.trans t5⟩ (congrFun (uD 0 (by decide)) 6)
    · -- 5 not: ixF (K 1 8) (wlC (sBy s0) (lN 0)) (nI 0) = -nI 1
      refine And.intro ⟨by omega, Nat.le_of_ble_eq_true rfl, Nat.le_refl _, Nat.le_refl _⟩ (And.intro (Wdo_87 hW) ?_)
      refine D84 hW hB2 hdj ?_
      refine And.intro ⟨rfl, Or.inl rfl, Nat.le_refl _, Nat.le_refl _⟩ ?_
      have kk2 := (ki_q (c := 2) t4 (by decide)).mp h2
      rw [hc, ix1, (tw kk2).2] at cz5
      exact hF _ _ 1 (plF B n i) (if_neg (fun z => absurd (cz5.symm.trans (if_pos z.2.symm)) (by decide))) rfl t5 t1
theorem D77 {d : Nat} {m : Mm} {Q : Option Value → Mm → Prop} {b : Nat} {E : Nat → Nat → Int32} {L : Nat → Nat → Int64} (hW : Wd m.2.2) (hB2 : LW m.2.2 b) (hdj : b + 19 ≤ 87 ∨ 87 + 6 ≤ b) {D : Nat → Nat → Int32} {K : Nat → Nat → Int64} {s0 : Nat} {cs : List Int64} (hs : s0 < sS.length) (hl : (sBy s0).length < 2 ^ 31) (hc : wlC (sBy s0) (lN 0) = cs) {B : Nat → Int32} {n k i : Nat} (hd : 8 ≤ d) (hR : RS B n k i D K) (hF : ∀ D1 K1 f p, pPick cs B n i = .inl (f, p) → D1 0 7 = nI f → D1 0 8 = nI p → D1 1 1 = nI 0 → Q (some (.int (nI 0))) (pp m 87 6 D1 K1 b 19 E L)) (hO : ∀ D1 K1 x j, pPick cs B n i = .inr (x, j) → SU B n k i j D K D1 K1 → D1 0 6 = x → Q (some (.int (nI 1))) (pp m 87 6 D1 K1 b 19 E L)) : Cc d 0 0 77 [.ref 87, .ref (1000000 + s0)] (pp m 87 6 D K b 19 E L) Q := by
  obtain ⟨hT, hi, hn, h05, h07⟩ := hR
  have tB := hT.1
  have t2 := hT.2.1
  have t5 := hT.2.2.1
  have t4 := hT.2.2.2.1
  have t3 := hT.2.2.2.2.1
  have tw := hT.2.2.2.2.2.1
  have td := hT.2.2.2.2.2.2.1
  have ts := hT.2.2.2.2.2.2.2.1
  have t1 := hT.2.2.2.2.2.2.2.2
  refine ent (n := 58) z77 (by decide) rfl (by decide) (Nat.le_of_ble_eq_true rfl) (fun sc => ?_)
  refine And.intro (Wdo_87 hW) (Exists.intro _ (And.intro (Wdr_87_0 hW) ?_))
  refine And.intro ⟨by omega, Nat.le_of_ble_eq_true rfl, Nat.le_refl _, Nat.le_refl _⟩ (And.intro (Wdo_88 hW) ?_)
  refine D110 (s0 := s0) hW hB2 hdj (by omega) hs hl ?_ ?_
  · -- a way behind the call
    intro h2
    refine And.intro (Wdo_87 hW) ?_
    rw [pp_u10 (x := 87) (by decide)]
    refine And.intro (Wdo_87 hW) ?_
    rw [pp_10 (x := 87) (by decide)]
    rw [show (ud D 0 6 (-nI 1)) 0 6 = (-nI 1) from rfl]
    refine And.intro (fun cz9 => ?_) (fun cz9 => ?_)
    · -- 9 taken: ¬ -nI 1 = -nI 1
      refine And.intro (Wdo_87 hW) (Exists.intro _ (And.intro (Wdr_87_0 hW) ?_))
      refine And.intro ⟨by omega, Nat.le_of_ble_eq_true rfl, Nat.le_refl _, Nat.le_refl _⟩ (And.intro (Wdo_88 hW) ?_)
      refine D108 (B := B) (n := n) (i := nxF B n i) (D0 := (ud D 0 6 (-nI 1))) hW hB2 hdj (by omega) hn (nxF_le hi) t2 tB t1 t3 (fun D1 K1 uT u9 u1 uD uK => ?_)
      refine And.intro ⟨rfl, Or.inr rfl, Nat.le_refl _, Nat.le_refl _⟩ ?_
      exact absurd rfl cz9
    · -- 9 not: -nI 1 = -nI 1
      refine And.intro ⟨by omega, Nat.le_of_ble_eq_true rfl, Nat.le_refl _, Nat.le_refl _⟩ (And.intro (Wdo_87 hW) ?_)
      refine D84 hW hB2 hdj ?_
      refine And.intro ⟨rfl, Or.inl rfl, Nat.le_refl _, Nat.le_refl _⟩ ?_
      exact hF _ _ 1 (plF B n i) (if_neg (fun z => h2 ((ki_q t4 (by decide)).mpr z.1))) rfl t5 t1
  · -- a way behind the call
    intro h2
    refine And.intro (Wdo_87 hW) ?_
    rw [pp_u10 (x := 87) (by decide)]
    refine And.intro (Wdo_87 hW) ?_
    rw [pp_10 (x := 87) (by decide)]
    rw [show (ud D 0 6 (ixF (K 1 8) (wlC (sBy s0) (lN 0)) (nI 0))) 0 6 = (ixF (K 1 8) (wlC (sBy s0) (lN 0)) (nI 0)) from rfl]
    refine And.intro (fun cz9 => ?_) (fun cz9 => ?_)
    · -- 9 taken: ¬ ixF (K 1 8) (wlC (sBy s0) (lN 0)) (nI 0) = -nI 1
      refine And.intro (Wdo_87 hW) (Exists.intro _ (And.intro (Wdr_87_0 hW) ?_))
      refine And.intro ⟨by omega, Nat.le_of_ble_eq_true rfl, Nat.le_refl _, Nat.le_refl _⟩ (And.intro (Wdo_88 hW) ?_)
      refine D108 (B := B) (n := n) (i := nxF B n i) (D0 := (ud D 0 6 (ixF (K 1 8) (wlC (sBy s0) (lN 0)) (nI 0)))) hW hB2 hdj (by omega) hn (nxF_le hi) t2 tB t1 t3 (fun D1 K1 uT u9 u1 uD uK => ?_)
      refine And.intro ⟨rfl, Or.inr rfl, Nat.le_refl _, Nat.le_refl _⟩ ?_
      have kk2 := (ki_q (c := 2) t4 (by decide)).mp h2
      rw [hc, (tw kk2).2] at cz9
      exact hO _ _ _ _ (if_pos ⟨kk2, cz9⟩) ⟨⟨uT, nxF_le hi, hn, (congrFun (uD 0 (by decide)) 5).trans h05, (congrFun (uD 0 (by decide)) 7).trans h07⟩, uD 4 (by decide), uD 5 (by decide), uK 3 (by decide), u9.trans t5⟩ ((congrFun (uD 0 (by decide)) 6).trans (by show ixF (K 1 8) _ _ = _; rw [hc, (tw kk2).2]))
    · -- 9 not: ixF (K 1 8) (wlC (sBy s0) (lN 0)) (nI 0) = -nI 1
      refine And.intro ⟨by omega, Nat.le_of_ble_eq_true rfl, Nat.le_refl _, Nat.le_refl _⟩ (And.intro (Wdo_87 hW) ?_)
      refine D84 hW hB2 hdj ?_
      refine And.intro ⟨rfl, Or.inl rfl, Nat.le_refl _, Nat.le_refl _⟩ ?_
      have kk2 := (ki_q (c := 2) t4 (by decide)).mp h2
      rw [hc, (tw kk2).2] at cz9
      exact hF _ _ 1 (plF B n i) (if_neg (fun z => z.2 cz9)) rfl t5 t1
theorem D78 {d : Nat} {m : Mm} {Q : Option Value → Mm → Prop} {b : Nat} {E : Nat → Nat → Int32} {L : Nat → Nat → Int64} (hW : Wd m.2.2) (hB2 : LW m.2.2 b) (hdj : b + 19 ≤ 87 ∨ 87 + 6 ≤ b) {D : Nat → Nat → Int32} {K : Nat → Nat → Int64} {w0 : Int32} {B : Nat → Int32} {n k i : Nat} (hd : 8 ≤ d) (hR : RS B n k i D K) (hF : ∀ D1 K1 f p, pSign w0 B n i = .inl (f, p) → D1 0 7 = nI f → D1 0 8 = nI p → D1 1 1 = nI 0 → Q (some (.int (nI 0))) (pp m 87 6 D1 K1 b 19 E L)) (hO : ∀ D1 K1 j, pSign w0 B n i = .inr j → SU B n k i j D K D1 K1 → D1 0 6 = D 0 6 → Q (some (.int (nI 1))) (pp m 87 6 D1 K1 b 19 E L)) : Cc d 0 0 78 [.ref 87, .int w0] (pp m 87 6 D K b 19 E L) Q := by
  obtain ⟨hT, hi, hn, h05, h07⟩ := hR
  have tB := hT.1
  have t2 := hT.2.1
  have t5 := hT.2.2.1
  have t4 := hT.2.2.2.1
  have t3 := hT.2.2.2.2.1
  have tw := hT.2.2.2.2.2.1
  have td := hT.2.2.2.2.2.2.1
  have ts := hT.2.2.2.2.2.2.2.1
  have t1 := hT.2.2.2.2.2.2.2.2
  refine ent (n := 58) z78 (by decide) rfl (by decide) (Nat.le_of_ble_eq_true rfl) (fun sc => ?_)
  refine And.intro (Wdo_87 hW) (Exists.intro _ (And.intro (Wdr_87_0 hW) ?_))
  refine And.intro (Wdo_88 hW) ?_
  rw [pp_1 (x := 87) (f := 1) (by decide)]
  refine And.intro (fun cz4 => ?_) (fun cz4 => ?_)
  · -- 4 taken: ¬ D 1 4 = nI 4
    refine And.intro ⟨by omega, Nat.le_of_ble_eq_true rfl, Nat.le_refl _, Nat.le_refl _⟩ (And.intro (Wdo_87 hW) ?_)
    refine D84 hW hB2 hdj ?_
    refine And.intro ⟨rfl, Or.inl rfl, Nat.le_refl _, Nat.le_refl _⟩ ?_
    exact hF _ _ 1 (plF B n i) (if_neg (fun z => cz4 ((ki_q t4 (by decide)).mpr z.1))) rfl t5 t1
  · -- 4 not: D 1 4 = nI 4
    refine And.intro (Wdo_87 hW) (Exists.intro _ (And.intro (Wdr_87_0 hW) ?_))
    refine And.intro (Wdo_88 hW) ?_
    rw [pp_1 (x := 87) (f := 1) (by decide)]
    refine And.intro (fun cz9 => ?_) (fun cz9 => ?_)
    · -- 9 taken: D 1 7 = w0
      refine And.intro (Wdo_87 hW) (Exists.intro _ (And.intro (Wdr_87_0 hW) ?_))
      refine And.intro ⟨by omega, Nat.le_of_ble_eq_true rfl, Nat.le_refl _, Nat.le_refl _⟩ (And.intro (Wdo_88 hW) ?_)
      refine D108 (B := B) (n := n) (i := nxF B n i) (D0 := D) hW hB2 hdj (by omega) hn (nxF_le hi) t2 tB t1 t3 (fun D1 K1 uT u9 u1 uD uK => ?_)
      refine And.intro ⟨rfl, Or.inr rfl, Nat.le_refl _, Nat.le_refl _⟩ ?_
      have kk4 := (ki_q (c := 4) t4 (by decide)).mp cz4
      rw [ts kk4] at cz9
      exact hO _ _ _ (if_pos ⟨kk4, cz9⟩) ⟨⟨uT, nxF_le hi, hn, (congrFun (uD 0 (by decide)) 5).trans h05, (congrFun (uD 0 (by decide)) 7).trans h07⟩, uD 4 (by decide), uD 5 (by decide), uK 3 (by decide), u9.trans t5⟩ (congrFun (uD 0 (by decide)) 6)
    · -- 9 not: ¬ D 1 7 = w0
      refine And.intro ⟨by omega, Nat.le_of_ble_eq_true rfl, Nat.le_refl _, Nat.le_refl _⟩ (And.intro (Wdo_87 hW) ?_)
      refine D84 hW hB2 hdj ?_
      refine And.intro ⟨rfl, Or.inl rfl, Nat.le_refl _, Nat.le_refl _⟩ ?_
      have kk4 := (ki_q (c := 4) t4 (by decide)).mp cz4
      rw [ts kk4] at cz9
      exact hF _ _ 1 (plF B n i) (if_neg (fun z => cz9 z.2)) rfl t5 t1
theorem D79 {d : Nat} {m : Mm} {Q : Option Value → Mm → Prop} {b : Nat} {E : Nat → Nat → Int32} {L : Nat → Nat → Int64} (hW : Wd m.2.2) (hB2 : LW m.2.2 b) (hdj : b + 19 ≤ 87 ∨ 87 + 6 ≤ b) {D : Nat → Nat → Int32} {K : Nat → Nat → Int64} {lo hi0 : Int32} {B : Nat → Int32} {n k i : Nat} (hd : 8 ≤ d) (hR : RS B n k i D K) (hF : ∀ D1 K1 f p, pWhole lo hi0 B n i = .inl (f, p) → D1 0 7 = nI f → D1 0 8 = nI p → D1 1 1 = nI 0 → Q (some (.int (nI 0))) (pp m 87 6 D1 K1 b 19 E L)) (hO : ∀ D1 K1 x j, pWhole lo hi0 B n i = .inr (x, j) → SU B n k i j D K D1 K1 → D1 0 6 = x → Q (some (.int (nI 1))) (pp m 87 6 D1 K1 b 19 E L)) : Cc d 0 0 79 [.ref 87, .int lo, .int hi0] (pp m 87 6 D K b 19 E L) Q := by
  obtain ⟨hT, hi, hn, h05, h07⟩ := hR
  have tB := hT.1
  have t2 := hT.2.1
  have t5 := hT.2.2.1
  have t4 := hT.2.2.2.1
  have t3 := hT.2.2.2.2.1
  have tw := hT.2.2.2.2.2.1
  have td := hT.2.2.2.2.2.2.1
  have ts := hT.2.2.2.2.2.2.2.1
  have t1 := hT.2.2.2.2.2.2.2.2
  refine ent (n := 86) z79 (by decide) rfl (by decide) (Nat.le_of_ble_eq_true rfl) (fun sc => ?_)
  refine And.intro (Wdo_87 hW) (Exists.intro _ (And.intro (Wdr_87_0 hW) ?_))
  refine And.intro (Wdo_88 hW) ?_
  rw [pp_1 (x := 87) (f := 1) (by decide)]
  refine And.intro (fun cz4 => ?_) (fun cz4 => ?_)
  · -- 4 taken: D 1 4 = nI 3
    refine And.intro (Wdo_87 hW) (Exists.intro _ (And.intro (Wdr_87_0 hW) ?_))
    refine And.intro (Wdo_88 hW) ?_
    rw [pp_1 (x := 87) (f := 1) (by decide)]
    refine And.intro (fun cz13 => ?_) (fun cz13 => ?_)
    · -- 13 taken: D 1 7 < lo
      refine And.intro ⟨by omega, Nat.le_of_ble_eq_true rfl, Nat.le_refl _, Nat.le_refl _⟩ (And.intro (Wdo_87 hW) ?_)
      refine D84 hW hB2 hdj ?_
      refine And.intro ⟨rfl, Or.inl rfl, Nat.le_refl _, Nat.le_refl _⟩ ?_
      have kk3 := (ki_q (c := 3) t4 (by decide)).mp cz4
      rw [td kk3] at cz13
      exact hF _ _ 4 (plF B n i) (by unfold pWhole; rw [if_pos kk3, if_pos (Or.inl cz13)]) rfl t5 t1
    · -- 13 not: ¬ D 1 7 < lo
      refine And.intro (Wdo_87 hW) (Exists.intro _ (And.intro (Wdr_87_0 hW) ?_))
      refine And.intro (Wdo_88 hW) ?_
      rw [pp_1 (x := 87) (f := 1) (by decide)]
      refine And.intro (fun cz18 => ?_) (fun cz18 => ?_)
      · -- 18 taken: D 1 7 ≤ hi0
        refine And.intro (Wdo_87 hW) (Exists.intro _ (And.intro (Wdr_87_0 hW) ?_))
        refine And.intro (Wdo_88 hW) ?_
        rw [pp_1 (x := 87) (f := 1) (by decide)]
        refine And.intro (Wdo_87 hW) ?_
        rw [pp_u10 (x := 87) (by decide)]
        refine And.intro (Wdo_87 hW) (Exists.intro _ (And.intro (Wdr_87_0 hW) ?_))
        refine And.intro ⟨by omega, Nat.le_of_ble_eq_true rfl, Nat.le_refl _, Nat.le_refl _⟩ (And.intro (Wdo_88 hW) ?_)
        refine D108 (B := B) (n := n) (i := nxF B n i) (D0 := (ud D 0 6 (D 1 7))) hW hB2 hdj (by omega) hn (nxF_le hi) t2 tB t1 t3 (fun D1 K1 uT u9 u1 uD uK => ?_)
        refine And.intro ⟨rfl, Or.inr rfl, Nat.le_refl _, Nat.le_refl _⟩ ?_
        have kk3 := (ki_q (c := 3) t4 (by decide)).mp cz4
        rw [td kk3] at cz13
        rw [td kk3] at cz18
        exact hO _ _ _ _ (by unfold pWhole; rw [if_pos kk3, if_neg (fun z => z.elim cz13 (Int32.not_lt.mpr cz18))]) ⟨⟨uT, nxF_le hi, hn, (congrFun (uD 0 (by decide)) 5).trans h05, (congrFun (uD 0 (by decide)) 7).trans h07⟩, uD 4 (by decide), uD 5 (by decide), uK 3 (by decide), u9.trans t5⟩ ((congrFun (uD 0 (by decide)) 6).trans (td kk3))
      · -- 18 not: ¬ D 1 7 ≤ hi0
        refine And.intro ⟨by omega, Nat.le_of_ble_eq_true rfl, Nat.le_refl _, Nat.le_refl _⟩ (And.intro (Wdo_87 hW) ?_)
        refine D84 hW hB2 hdj ?_
        refine And.intro ⟨rfl, Or.inl rfl, Nat.le_refl _, Nat.le_refl _⟩ ?_
        have kk3 := (ki_q (c := 3) t4 (by decide)).mp cz4
        rw [td kk3] at cz13
        rw [td kk3] at cz18
        exact hF _ _ 4 (plF B n i) (by unfold pWhole; rw [if_pos kk3, if_pos (Or.inr (Int32.not_le.mp cz18))]) rfl t5 t1
  · -- 4 not: ¬ D 1 4 = nI 3
    refine And.intro ⟨by omega, Nat.le_of_ble_eq_true rfl, Nat.le_refl _, Nat.le_refl _⟩ (And.intro (Wdo_87 hW) ?_)
    refine D84 hW hB2 hdj ?_
    refine And.intro ⟨rfl, Or.inl rfl, Nat.le_refl _, Nat.le_refl _⟩ ?_
    exact hF _ _ 1 (plF B n i) (if_neg (fun z => cz4 ((ki_q t4 (by decide)).mpr z))) rfl t5 t1
