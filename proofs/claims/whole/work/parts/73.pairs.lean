theorem lmny_a {sc : Nat × (Nat → Int32)} {d : Nat} {m : Mm} {Q : Option Value → Mm → Prop} {q n nt : Nat} (hd : 2 ≤ d) (hW : Wd m.2.2) (hN : NW m.2.2 q) (h158 : 158 ≤ q) (hq : va_rf (mR m 142 3) = .ref q) (hn : mI m q 6 = nI n) (hn6 : n ≤ 6) (hnt : mI m q 5 = nI nt) (hnt6 : nt ≤ 6) {g : Nat} (hg : g < 6) {t : Nat} (ht : t < nt) (hk : Jj sc d 0 0 (mth 261) (pg P261 15).1 [some (.ref 142), some (.int (nI g)), some (.int (heF (mI m (q + 7)) g g (mI m q 4) (t + 1))), some (.int (nI (t + 1))), none] [] m 0 0 Q)  : ∀ (j s : Nat), s ≤ 5 → 5 + 1 ≤ s + j → Jj sc d 0 0 (mth 261) (pg P261 22).1 [some (.ref 142), some (.int (nI g)), some (.int (fo (heS (mI m (q + 7)) g g t (mI m q 4)) (heF (mI m (q + 7)) g g (mI m q 4) t) s)), some (.int (nI t)), some (.int (nI s))] [] m 0 0 Q := by
  intro j
  induction j with
  | zero => intro s h1 h2; omega
  | succ j ih =>
    intro s h1 h2
    refine J_w z261 (i := 22) (by decide) 118 ?_
    refine And.intro (fun cz24 => ?_) (fun cz24 => ?_)
    · -- 24 taken: nI 5 ≤ nI s
      have kz24 : 5 ≤ s := kle (a := 5) (b := s) rfl rfl (by omega) (by omega) cz24
      show Jj sc d 0 0 (mth 261) (pg P261 15).1 [some (.ref 142), some (.int (nI g)), some (.int (fo (heS (mI m (q + 7)) g g t (mI m q 4)) (heF (mI m (q + 7)) g g (mI m q 4) t) s)), some (.int (nI t + nI 1)), some (.int (nI s))] [] m 0 0 Q
      rw [show nI t + nI 1 = nI (t + 1) from by simp only [nI_add, pk_mul]]
      refine J_wk (L' := [some (.ref 142), some (.int (nI g)), some (.int (fo (heS (mI m (q + 7)) g g t (mI m q 4)) (heF (mI m (q + 7)) g g (mI m q 4) t) s)), some (.int (nI (t + 1))), none]) ⟨rfl, rfl, rfl, rfl, trivial⟩ ?_
      rw [show s = 5 by omega]
      exact hk
    · -- 24 not: ¬ nI 5 ≤ nI s
      have kz24 : s < 5 := knle (a := 5) (b := s) rfl rfl (by omega) (by omega) cz24
      refine And.intro ⟨by omega, Nat.le_of_ble_eq_true rfl, Nat.le_refl _, Nat.le_refl _⟩ (And.intro (Wdo_142 hW) ?_)
      refine C260 hW hN hq (by omega) ?_
      refine And.intro (fun cz29 => ?_) (fun cz29 => ?_)
      · -- 29 taken: bi (bq (mI m q 4) (nI s)) = 0
        show Jj sc d 0 0 (mth 261) (pg P261 22).1 [some (.ref 142), some (.int (nI g)), some (.int ((fo (heS (mI m (q + 7)) g g t (mI m q 4)) (heF (mI m (q + 7)) g g (mI m q 4) t) s) + nI 0)), some (.int (nI t)), some (.int (nI s + nI 1))] [] m 0 0 Q
        rw [show nI s + nI 1 = nI (s + 1) from by simp only [nI_add, pk_mul]]
        have w9 := ih (s + 1) (by omega) (by omega)
        rw [fo_s] at w9
        unfold heS at w9
        rw [if_neg (bi_eq0.mp cz29)] at w9
        rw [add_z]
        exact w9
      · -- 29 not: ¬ bi (bq (mI m q 4) (nI s)) = 0
        refine And.intro (Wdo_142 hW) (Exists.intro _ (And.intro hq ?_))
        refine And.intro ⟨by omega, Nat.le_of_ble_eq_true rfl, Nat.le_refl _, Nat.le_refl _⟩ (And.intro (NWo_0 hN) ?_)
        refine C197 (g := g) (t := t) (s := s) hN (by omega) (by omega) (by omega) ?_
        refine And.intro ⟨by omega, Nat.le_of_ble_eq_true rfl, Nat.le_refl _, Nat.le_refl _⟩ ?_
        refine C206 ?_
        show Jj sc d 0 0 (mth 261) (pg P261 22).1 [some (.ref 142), some (.int (nI g)), some (.int ((fo (heS (mI m (q + 7)) g g t (mI m q 4)) (heF (mI m (q + 7)) g g (mI m q 4) t) s) + (bcF (mI m (q + 7) ((g * 6 + t) * 5 + s))))), some (.int (nI t)), some (.int (nI s + nI 1))] [] m 0 0 Q
        rw [show nI s + nI 1 = nI (s + 1) from by simp only [nI_add, pk_mul]]
        have w9 := ih (s + 1) (by omega) (by omega)
        rw [fo_s] at w9
        unfold heS at w9
        rw [if_pos (bi_ne0.mp cz29), and_s] at w9
        exact w9
theorem lmny_b {sc : Nat × (Nat → Int32)} {d : Nat} {m : Mm} {Q : Option Value → Mm → Prop} {q n nt : Nat} (hd : 2 ≤ d) (hW : Wd m.2.2) (hN : NW m.2.2 q) (h158 : 158 ≤ q) (hq : va_rf (mR m 142 3) = .ref q) (hn : mI m q 6 = nI n) (hn6 : n ≤ 6) (hnt : mI m q 5 = nI nt) (hnt6 : nt ≤ 6) {g : Nat} (hg : g < 6) (hQ : Q (some (.int (heF (mI m (q + 7)) g g (mI m q 4) nt))) (uI (uI m 142 1 (nI 0)) 142 2 (-nI 1)))  : ∀ (j t : Nat), t ≤ nt → nt + 1 ≤ t + j → Jj sc d 0 0 (mth 261) (pg P261 15).1 [some (.ref 142), some (.int (nI g)), some (.int (heF (mI m (q + 7)) g g (mI m q 4) t)), some (.int (nI t)), none] [] m 0 0 Q := by
  intro j
  induction j with
  | zero => intro t h1 h2; omega
  | succ j ih =>
    intro t h1 h2
    refine J_w z261 (i := 15) (by decide) 118 ?_
    refine And.intro (Wdo_142 hW) (Exists.intro _ (And.intro hq ?_))
    refine And.intro (NWo_0 hN) ?_
    rw [hnt]
    refine And.intro (fun cz19 => ?_) (fun cz19 => ?_)
    · -- 19 taken: nI nt ≤ nI t
      have kz19 : nt ≤ t := kle (a := nt) (b := t) rfl rfl (by omega) (by omega) cz19
      refine And.intro ⟨by omega, Nat.le_of_ble_eq_true rfl, Nat.le_refl _, Nat.le_refl _⟩ (And.intro (Wdo_142 hW) ?_)
      refine C202 hW ?_
      refine And.intro ⟨rfl, trivial, Nat.le_refl _, Nat.le_refl _⟩ ?_
      rw [show t = nt by omega]
      exact hQ
    · -- 19 not: ¬ nI nt ≤ nI t
      have kz19 : t < nt := knle (a := nt) (b := t) rfl rfl (by omega) (by omega) cz19
      show Jj sc d 0 0 (mth 261) (pg P261 22).1 [some (.ref 142), some (.int (nI g)), some (.int (heF (mI m (q + 7)) g g (mI m q 4) t)), some (.int (nI t)), some (.int (nI 0))] [] m 0 0 Q
      exact lmny_a (by omega) hW hN h158 hq hn hn6 hnt hnt6 hg kz19 (ih (t + 1) (by omega) (by omega)) 6 0 (by decide) (by decide)
theorem P_many {d : Nat} {m : Mm} {Q : Option Value → Mm → Prop} {z : Nat} {x : Int32} (hd : 16 ≤ d) (hR : Rel z m) (h : ∀ (r : Int32) m1, Wd m1.2.2 → (∀ Q2 : Option Value → Mm → Prop, (∀ m2, Rel z m2 → Q2 (some (.int r)) m2) → Cc d 0 0 261 [.ref 142, .int x] m1 Q2) → Q (some (.int r)) m1) : Cc d 0 0 127 [.ref 0, .int x] m Q := by
  obtain ⟨hW, hz, hS, a, b, hA, hX⟩ := id hR
  obtain ⟨hL, hLb, hab, ha, hb⟩ := RelA_L hW hA
  obtain ⟨n2r, hn2, bn2, ln2⟩ := RL_n (s := 2) (f := 5) hX.2.2.1 (by decide) (fun _ _ h => h.2.2.2.2.2.1)
  change n2r ≤ 6 at bn2
  obtain ⟨n4r, hn4, bn4, ln4⟩ := RL_n (s := 4) (f := 6) hX.2.2.1 (by decide) (fun _ _ h => h.2.2.2.2.2.2.1)
  change n4r ≤ 6 at bn4
  obtain ⟨n8r, hn8, bn8, ln8⟩ := RL_n (s := 8) (f := 10) hX.2.2.1 (by decide) (fun _ _ h => h.2.2.2.2.2.2.2.2.2.2.1)
  change n8r ≤ 8 at bn8
  obtain ⟨n10r, hn10, bn10, ln10⟩ := RL_n (s := 10) (f := 12) hX.2.2.1 (by decide) (fun _ _ h => h.2.2.2.2.2.2.2.2.2.2.2.2.1)
  change n10r ≤ 4 at bn10
  refine ent (n := 52) z127 (by decide) rfl (by decide) (Nat.le_of_ble_eq_true rfl) (fun sc => ?_)
  refine And.intro ⟨by omega, Nat.le_of_ble_eq_true rfl, Nat.le_refl _, Nat.le_refl _⟩ (And.intro (Wdo_0 hW) ?_)
  refine C181 (by omega) hW ha hL hn4 (by omega) ?_
  refine And.intro (fun cz3 => ?_) (fun cz3 => ?_)
  · -- 3 taken: ¬ bi (iR x n4r) = 0
    obtain ⟨g, hg, rfl⟩ := bi_ne0.mp cz3
    obtain ⟨q, hq1⟩ := RL_1 (s := 4) hX.2.2.1 (by decide) hn4 (show 0 < n4r by omega) (by omega)
    obtain ⟨hq, w, u, ha0, ha1, hq0, hq1w, hw6, hu4, hwu, hgr⟩ := RL_q hq1
    obtain ⟨h158, hqz, hN, h3, ⟨T, hI⟩, hst, hla, hLQ, hSR⟩ := hq1
    have hq6 : mI m q 6 = nI n4r := hLQ.1.2.2.2.2.2.2.1.trans hn4
    have hq5 : mI m q 5 = nI n2r := hLQ.1.2.2.2.2.2.1.trans hn2
    refine And.intro (Wdo_0 hW) (Exists.intro _ (And.intro ha ?_))
    refine And.intro ⟨by omega, Nat.le_of_ble_eq_true rfl, Nat.le_refl _, Nat.le_refl _⟩ ?_
    refine C38 (g := g) (g2 := g) (by omega) hL ha0 ha1 hwu hn2 (by omega) hn4 (by omega) (by omega) (by omega) ?_
    refine And.intro ⟨by omega, Nat.le_of_ble_eq_true rfl, Nat.le_refl _, Nat.le_refl _⟩ (And.intro (Wdo_0 hW) ?_)
    refine C177 hW ?_
    refine And.intro ⟨rfl, trivial, Nat.le_refl _, Nat.le_refl _⟩ ?_
    refine h _ _ hW (fun Q2 h2 => ?_)
    refine ent (n := 118) z261 (by decide) rfl (by decide) (Nat.le_of_ble_eq_true rfl) (fun sc2 => ?_)
    refine And.intro (Wdo_142 hW) ?_
    refine And.intro ⟨by omega, Nat.le_of_ble_eq_true rfl, Nat.le_refl _, Nat.le_refl _⟩ (And.intro (Wdo_142 hW) ?_)
    refine C247 (m := (uI (uI m 0 0 (nI 0)) 142 0 (nI 0))) (by omega) hW (LN_u (LN_u ln4 (by decide)) (by decide)) (by omega) ?_
    refine And.intro (fun cr6 => ?_) (fun cr6 => False.elim (absurd (bi_ne0.mp cz3) (bi_eq0.mp cr6)))
    show Jj sc2 d 0 0 (mth 261) (pg P261 15).1 [some (.ref 142), some (.int (nI g)), some (.int (nI 0)), some (.int (nI 0)), none] [] (uI (uI m 0 0 (nI 0)) 142 0 (nI 0)) 0 0 Q2
    refine lmny_b (m := (uI (uI m 0 0 (nI 0)) 142 0 (nI 0))) (q := q) (n := n4r) (nt := n2r) (g := g) (by omega) hW hN h158 hq (show mI (uI (uI m 0 0 (nI 0)) 142 0 (nI 0)) q 6 = nI n4r by rw [uI_ne (by omega), uI_ne (by omega)]; exact hq6) (by omega) (show mI (uI (uI m 0 0 (nI 0)) 142 0 (nI 0)) q 5 = nI n2r by rw [uI_ne (by omega), uI_ne (by omega)]; exact hq5) (by omega) (by omega) ?_ (n2r + 1) 0 (Nat.zero_le _) (by omega)
    rw [uI_ne (b := q + 7) (by omega), uI_ne (b := q + 7) (by omega), uI_ne (b := q) (by omega), uI_ne (b := q) (by omega), heF_c (f := mI m (q + 7)) (g := mI m (a + 7)) hLQ.2.2.2.2.2.1 (by omega) (by omega) (by omega), hgr]
    exact h2 _ (Rel_ans hR (by decide))
  · -- 3 not: bi (iR x n4r) = 0
    refine And.intro ⟨by omega, Nat.le_of_ble_eq_true rfl, Nat.le_refl _, Nat.le_refl _⟩ (And.intro (Wdo_0 hW) ?_)
    refine C176 hW ?_
    refine And.intro ⟨rfl, trivial, Nat.le_refl _, Nat.le_refl _⟩ ?_
    refine h _ _ hW (fun Q2 h2 => ?_)
    refine ent (n := 118) z261 (by decide) rfl (by decide) (Nat.le_of_ble_eq_true rfl) (fun sc2 => ?_)
    refine And.intro (Wdo_142 hW) ?_
    refine And.intro ⟨by omega, Nat.le_of_ble_eq_true rfl, Nat.le_refl _, Nat.le_refl _⟩ (And.intro (Wdo_142 hW) ?_)
    refine C247 (m := (uI (uI m 0 0 (nI 1)) 142 0 (nI 0))) (by omega) hW (LN_u (LN_u ln4 (by decide)) (by decide)) (by omega) ?_
    refine And.intro (fun cr6 => False.elim (absurd (bi_ne0.mp cr6) (bi_eq0.mp cz3))) (fun cr6 => ?_)
    refine And.intro ⟨by omega, Nat.le_of_ble_eq_true rfl, Nat.le_refl _, Nat.le_refl _⟩ (And.intro (Wdo_142 hW) ?_)
    refine C200 (m := (uI (uI m 0 0 (nI 1)) 142 0 (nI 0))) hW ?_
    refine And.intro ⟨rfl, trivial, Nat.le_refl _, Nat.le_refl _⟩ ?_
    exact h2 _ (Rel_ans hR (by decide))
theorem or_32 : ∀ a, a < 32 → ∀ b, b < 5 → nv (nI a ||| nI 1 <<< (nI b &&& 31)) < 32 ∧ nI a ||| nI 1 <<< (nI b &&& 31) = nI (nv (nI a ||| nI 1 <<< (nI b &&& 31))) := by decide +kernel
theorem or_64 : ∀ a, a < 64 → ∀ b, b < 6 → nv (nI a ||| nI 1 <<< (nI b &&& 31)) < 64 ∧ nI a ||| nI 1 <<< (nI b &&& 31) = nI (nv (nI a ||| nI 1 <<< (nI b &&& 31))) := by decide +kernel
theorem gr_32 {f : Nat → Int32} : ∀ {n : Nat}, (∀ x, x < n → iR (f x) 5) → iR (grF f n) 32
  | 0, _ => ⟨0, by decide, rfl⟩
  | n + 1, h => by
    obtain ⟨w, hw, ew⟩ := gr_32 (n := n) (fun x hx => h x (by omega))
    obtain ⟨y, hy, ey⟩ := h n (by omega)
    rw [grF_s, ew, ey]
    have := or_32 w hw y hy
    exact ⟨_, this.1, this.2⟩
theorem ho_64 {f : Nat → Int32} {t s : Nat} {h : Int32} : ∀ {n : Nat}, n ≤ 6 → iR (hoF f t s h n) 64
  | 0, _ => ⟨0, by decide, rfl⟩
  | n + 1, hn => by
    obtain ⟨w, hw, ew⟩ := ho_64 (f := f) (t := t) (s := s) (h := h) (n := n) (by omega)
    show iR (if bq (f ((n * 6 + t) * 5 + s)) h then hoF f t s h n ||| nI 1 <<< (nI n &&& 31) else hoF f t s h n) 64
    split
    · rw [ew]
      have := or_64 w hw n (by omega)
      exact ⟨_, this.1, this.2⟩
    · exact ⟨w, hw, ew⟩
theorem bc_64 : ∀ a, a < 64 → nv (bcF (nI a)) ≤ 6 ∧ bcF (nI a) = nI (nv (bcF (nI a))) := by decide +kernel
/-- how many soils there are -/
def cnS (gr : Int32) (s : Nat) : Int32 := fo (fun s y => if bq gr (nI s) then y + nI 1 else y) (nI 0) s
theorem cs_32 : ∀ a, a < 32 → cnS (nI a) 5 = bcF (nI a) := by decide +kernel
theorem bc_6 {f : Nat → Int32} {t s n : Nat} {h : Int32} (hn : n ≤ 6) : ∃ w, w ≤ 6 ∧ bcF (hoF f t s h n) = nI w := by
  obtain ⟨w, hw, ew⟩ := ho_64 (f := f) (t := t) (s := s) (h := h) hn
  rw [ew]
  have := bc_64 w hw
  exact ⟨_, this.1, this.2⟩
theorem dis_u {f : Nat → Int32} {t s n : Nat} {gr : Int32} (hn : n ≤ 6) (hb : bq gr (nI s)) {x : Int32} : ∀ u, fo (owS f n gr (nI 2) (nI 6) t s) x u = fo (hbS f n t s (nI 2)) x u
  | 0 => rfl
  | u + 1 => by
    rw [fo_s, fo_s, dis_u hn hb u]
    obtain ⟨w, hw, ew⟩ := bc_6 (f := f) (t := t) (s := s) (h := nI u) hn
    unfold owS hbS
    rw [ew]
    by_cases h2 : w < 2
    · rw [if_neg (fun z => absurd z.2.1 (Int32.not_le.mpr (nI_lt h2 (by decide)))), if_pos (nI_lt h2 (by decide))]
    · rw [if_pos ⟨hb, nI_le (by omega) (by omega), nI_le (by omega) (by decide)⟩, if_neg (Int32.not_lt.mpr (nI_le (by omega) (by omega)))]
theorem ow_n {f : Nat → Int32} {t s n : Nat} {gr lo hi : Int32} (hb : ¬ bq gr (nI s)) {x : Int32} : ∀ u, fo (owS f n gr lo hi t s) x u = x
  | 0 => rfl
  | u + 1 => by
    rw [fo_s, ow_n hb u]
    unfold owS
    exact if_neg (fun z => hb z.1)
theorem dis_e {f : Nat → Int32} {n nt : Nat} {gr : Int32} (hn : n ≤ 6) : owF f n gr (nI 2) (nI 6) nt = hbF f n nt gr (nI 2) := by
  unfold owF hbF
  refine fo_c (fun t _ x => ?_)
  unfold owT hbT
  refine fo_c (fun s _ y => ?_)
  unfold owM hbM
  by_cases hb : bq gr (nI s)
  · rw [if_pos hb]
    exact dis_u hn hb 24
  · rw [if_neg hb]
    exact ow_n hb 24
theorem i4 {a b g e : Int32} : a + nI 1 + b = a + b + nI 1 := by
  rw [Int32.add_assoc, Int32.add_comm (nI 1) b, ← Int32.add_assoc]
theorem nob_u {f : Nat → Int32} {t s n : Nat} {gr : Int32} (hn : n ≤ 6) (hb : bq gr (nI s)) {x y : Int32} : ∀ u, fo (owS f n gr (nI 0) (nI 0) t s) x u + fo (hbS f n t s (nI 1)) y u = x + y + nI u
  | 0 => add_z.symm
  | u + 1 => by
    have ih := nob_u (f := f) (t := t) hn hb (x := x) (y := y) u
    rw [fo_s, fo_s]
    obtain ⟨w, hw, ew⟩ := bc_6 (f := f) (t := t) (s := s) (h := nI u) hn
    generalize fo (owS f n gr (nI 0) (nI 0) t s) x u = p at ih ⊢
    generalize fo (hbS f n t s (nI 1)) y u = r at ih ⊢
    unfold owS hbS
    rw [ew, ← nI_add, ← Int32.add_assoc, ← ih]
    by_cases h2 : w < 1
    · rw [if_pos ⟨hb, nI_le (by omega) (by omega), nI_le (by omega) (by decide)⟩, if_pos (nI_lt h2 (by decide))]
      exact i4 (g := 0) (e := 0)
    · rw [if_neg (fun z => absurd z.2.2 (Int32.not_le.mpr (nI_lt (by omega) (by omega)))), if_neg (Int32.not_lt.mpr (nI_le (by omega) (by omega)))]
      exact (Int32.add_assoc _ _ _).symm
theorem nob_s {f : Nat → Int32} {t n : Nat} {gr : Int32} (hn : n ≤ 6) {x y : Int32} : ∀ s, fo (owM f n gr (nI 0) (nI 0) t) x s + fo (hbM f n t gr (nI 1)) y s = x + y + cnS gr s * nI 24
  | 0 => by rw [show cnS gr 0 * nI 24 = nI 0 from by rw [show cnS gr 0 = nI 0 from rfl]; decide]; exact add_z.symm
  | s + 1 => by
    have ih := nob_s (f := f) (t := t) (gr := gr) hn (x := x) (y := y) s
    rw [fo_s, fo_s]
    generalize fo (owM f n gr (nI 0) (nI 0) t) x s = p at ih ⊢
    generalize fo (hbM f n t gr (nI 1)) y s = r at ih ⊢
    have hc : cnS gr (s + 1) = if bq gr (nI s) then cnS gr s + nI 1 else cnS gr s := fo_s
    unfold owM hbM
    rw [hc]
    by_cases hb : bq gr (nI s)
    · rw [if_pos hb, if_pos hb, nob_u hn hb 24, ih, Int32.add_mul, Int32.add_assoc]
      rfl
    · rw [if_neg hb, if_neg hb, ow_n hb 24, ih]
theorem nob_t {f : Nat → Int32} {n : Nat} {gr : Int32} (hn : n ≤ 6) : ∀ nt, owF f n gr (nI 0) (nI 0) nt + hbF f n nt gr (nI 1) = nI nt * (cnS gr 5 * nI 24)
  | 0 => by show nI 0 + nI 0 = nI 0 * _; rw [show nI 0 = 0 from rfl, Int32.zero_mul]; rfl
  | t + 1 => by
    have ih := nob_t (f := f) (gr := gr) hn t
    have ez1 : owF f n gr (nI 0) (nI 0) (t + 1) = fo (owM f n gr (nI 0) (nI 0) t) (owF f n gr (nI 0) (nI 0) t) 5 := rfl
    have ez2 : hbF f n (t + 1) gr (nI 1) = fo (hbM f n t gr (nI 1)) (hbF f n t gr (nI 1)) 5 := rfl
    rw [ez1, ez2, nob_s hn 5, ih, ← nI_add, Int32.add_mul, show nI 1 * (cnS gr 5 * nI 24) = cnS gr 5 * nI 24 from Int32.one_mul _]
theorem nob_e {f : Nat → Int32} {n nt : Nat} {gr : Int32} (hn : n ≤ 6) (hg : iR gr 32) : owF f n gr (nI 0) (nI 0) nt = nI nt * bcF gr * nI 24 - hbF f n nt gr (nI 1) := by
  have h := nob_t (f := f) (gr := gr) hn nt
  obtain ⟨w, hw, ew⟩ := hg
  rw [show cnS gr 5 = bcF gr from by rw [ew]; exact cs_32 w hw, ← Int32.mul_assoc] at h
  rw [← h, Int32.add_sub_cancel]
theorem hbF_c {f g : Nat → Int32} {n nt : Nat} {gr l : Int32} (he : ∀ x, x < 180 → f x = g x) (hn : n ≤ 6) (ht : nt ≤ 6) : hbF f n nt gr l = hbF g n nt gr l := by
  unfold hbF
  refine fo_c (fun t h1 x => ?_)
  unfold hbT
  refine fo_c (fun s h2 y => ?_)
  unfold hbM
  split
  · refine fo_c (fun u _ y => ?_)
    unfold hbS
    rw [hoF_c he (by omega) h2 hn]
  · rfl
theorem P_disputed {d : Nat} {m : Mm} {Q : Option Value → Mm → Prop} {z : Nat} (hd : 16 ≤ d) (hR : Rel z m) (h : ∀ (r : Int32) m1, Wd m1.2.2 → (∀ Q2 : Option Value → Mm → Prop, (∀ m2, Rel z m2 → Q2 (some (.int r)) m2) → Cc d 0 0 266 [.ref 142] m1 Q2) → Q (some (.int r)) m1) : Cc d 0 0 131 [.ref 0] m Q := by
  obtain ⟨hW, hz, hS, a, b, hA, hX⟩ := id hR
  obtain ⟨hL, hLb, hab, ha, hb⟩ := RelA_L hW hA
  obtain ⟨n2r, hn2, bn2, ln2⟩ := RL_n (s := 2) (f := 5) hX.2.2.1 (by decide) (fun _ _ h => h.2.2.2.2.2.1)
  change n2r ≤ 6 at bn2
  obtain ⟨n4r, hn4, bn4, ln4⟩ := RL_n (s := 4) (f := 6) hX.2.2.1 (by decide) (fun _ _ h => h.2.2.2.2.2.2.1)
  change n4r ≤ 6 at bn4
  obtain ⟨n8r, hn8, bn8, ln8⟩ := RL_n (s := 8) (f := 10) hX.2.2.1 (by decide) (fun _ _ h => h.2.2.2.2.2.2.2.2.2.2.1)
  change n8r ≤ 8 at bn8
  obtain ⟨n10r, hn10, bn10, ln10⟩ := RL_n (s := 10) (f := 12) hX.2.2.1 (by decide) (fun _ _ h => h.2.2.2.2.2.2.2.2.2.2.2.2.1)
  change n10r ≤ 4 at bn10
  rcases RL_st hX.2.2.1 with ⟨hL0, hst0⟩ | ⟨q, hq1, hst0⟩
  · skip
    refine ent (n := 50) z131 (by decide) rfl (by decide) (Nat.le_of_ble_eq_true rfl) (fun sc => ?_)
    refine And.intro (Wdo_0 hW) (Exists.intro _ (And.intro ha ?_))
    refine And.intro ⟨by omega, Nat.le_of_ble_eq_true rfl, Nat.le_refl _, Nat.le_refl _⟩ (And.intro (LWo_0 hL) ?_)
    refine C21 hL ?_
    refine And.intro (fun cz3 => ?_) (fun cz3 => False.elim (absurd (bi_ne0.mp cz3) (hst0)))
    refine And.intro ⟨by omega, Nat.le_of_ble_eq_true rfl, Nat.le_refl _, Nat.le_refl _⟩ (And.intro (Wdo_0 hW) ?_)
    refine C176 hW ?_
    refine And.intro ⟨rfl, trivial, Nat.le_refl _, Nat.le_refl _⟩ ?_
    refine h _ _ hW (fun Q2 h2 => ?_)
    refine ent (n := 54) z266 (by decide) rfl (by decide) (Nat.le_of_ble_eq_true rfl) (fun sc2 => ?_)
    refine And.intro (Wdo_142 hW) ?_
    refine And.intro (Wdo_142 hW) (Exists.intro _ (And.intro (show va_rf (mR m 142 3) = .null by rw [hL0.1]; rfl) ?_))
    refine And.intro ⟨by omega, Nat.le_of_ble_eq_true rfl, Nat.le_refl _, Nat.le_refl _⟩ (And.intro (Wdo_142 hW) ?_)
    refine C200 (m := (uI (uI m 0 0 (nI 1)) 142 0 (nI 0))) hW ?_
    refine And.intro ⟨rfl, trivial, Nat.le_refl _, Nat.le_refl _⟩ ?_
    exact h2 _ (Rel_ans hR (by decide))
  · skip
    obtain ⟨hq, w, u, ha0, ha1, hq0, hq1w, hw6, hu4, hwu, hgr⟩ := RL_q hq1
    obtain ⟨h158, hqz, hN, h3, ⟨T, hI⟩, hst, hla, hLQ, hSR⟩ := hq1
    have hq6 : mI m q 6 = nI n4r := hLQ.1.2.2.2.2.2.2.1.trans hn4
    have hq5 : mI m q 5 = nI n2r := hLQ.1.2.2.2.2.2.1.trans hn2
    refine ent (n := 50) z131 (by decide) rfl (by decide) (Nat.le_of_ble_eq_true rfl) (fun sc => ?_)
    refine And.intro (Wdo_0 hW) (Exists.intro _ (And.intro ha ?_))
    refine And.intro ⟨by omega, Nat.le_of_ble_eq_true rfl, Nat.le_refl _, Nat.le_refl _⟩ (And.intro (LWo_0 hL) ?_)
    refine C21 hL ?_
    refine And.intro (fun cz3 => False.elim (absurd (hst0) (bi_eq0.mp cz3))) (fun cz3 => ?_)
    refine And.intro (Wdo_0 hW) (Exists.intro _ (And.intro ha ?_))
    refine And.intro ⟨by omega, Nat.le_of_ble_eq_true rfl, Nat.le_refl _, Nat.le_refl _⟩ ?_
    refine C39 (by omega) hL ha0 ha1 hwu hn2 (by omega) hn4 (by omega) ?_
    refine And.intro ⟨by omega, Nat.le_of_ble_eq_true rfl, Nat.le_refl _, Nat.le_refl _⟩ (And.intro (Wdo_0 hW) ?_)
    refine C177 hW ?_
    refine And.intro ⟨rfl, trivial, Nat.le_refl _, Nat.le_refl _⟩ ?_
    refine h _ _ hW (fun Q2 h2 => ?_)
    refine ent (n := 54) z266 (by decide) rfl (by decide) (Nat.le_of_ble_eq_true rfl) (fun sc2 => ?_)
    refine And.intro (Wdo_142 hW) ?_
    refine And.intro (Wdo_142 hW) (Exists.intro _ (And.intro hq ?_))
    refine And.intro ⟨by omega, Nat.le_of_ble_eq_true rfl, Nat.le_refl _, Nat.le_refl _⟩ (And.intro (Wdo_142 hW) ?_)
    refine C263 (m := (uI (uI m 0 0 (nI 0)) 142 0 (nI 0))) (by omega) hW hN h158 hq (show mI (uI (uI m 0 0 (nI 0)) 142 0 (nI 0)) q 6 = nI n4r by rw [uI_ne (by omega), uI_ne (by omega)]; exact hq6) (by omega) (show mI (uI (uI m 0 0 (nI 0)) 142 0 (nI 0)) q 5 = nI n2r by rw [uI_ne (by omega), uI_ne (by omega)]; exact hq5) (by omega) ?_
    rw [uI_ne (m := (uI m 0 0 (nI 0))) (a := 142) (b := (q + 7)) (by omega)]
    rw [uI_ne (m := (uI m 0 0 (nI 0))) (a := 142) (b := q) (by omega)]
    rw [uI_ne (m := m) (a := 0) (b := (q + 7)) (by omega)]
    rw [uI_ne (m := m) (a := 0) (b := q) (by omega)]
    refine And.intro ⟨by omega, Nat.le_of_ble_eq_true rfl, Nat.le_refl _, Nat.le_refl _⟩ (And.intro (Wdo_142 hW) ?_)
    refine C202 (m := (uI (uI m 0 0 (nI 0)) 142 0 (nI 0))) hW ?_
    refine And.intro ⟨rfl, trivial, Nat.le_refl _, Nat.le_refl _⟩ ?_
    rw [dis_e (by omega), hbF_c (f := mI m (q + 7)) (g := mI m (a + 7)) hLQ.2.2.2.2.2.1 (by omega) (by omega), hgr]
    exact h2 _ (Rel_ans hR (by decide))
theorem P_nobodys {d : Nat} {m : Mm} {Q : Option Value → Mm → Prop} {z : Nat} (hd : 16 ≤ d) (hR : Rel z m) (h : ∀ (r : Int32) m1, Wd m1.2.2 → (∀ Q2 : Option Value → Mm → Prop, (∀ m2, Rel z m2 → Q2 (some (.int r)) m2) → Cc d 0 0 264 [.ref 142] m1 Q2) → Q (some (.int r)) m1) : Cc d 0 0 129 [.ref 0] m Q := by
  obtain ⟨hW, hz, hS, a, b, hA, hX⟩ := id hR
  obtain ⟨hL, hLb, hab, ha, hb⟩ := RelA_L hW hA
  obtain ⟨n2r, hn2, bn2, ln2⟩ := RL_n (s := 2) (f := 5) hX.2.2.1 (by decide) (fun _ _ h => h.2.2.2.2.2.1)
  change n2r ≤ 6 at bn2
  obtain ⟨n4r, hn4, bn4, ln4⟩ := RL_n (s := 4) (f := 6) hX.2.2.1 (by decide) (fun _ _ h => h.2.2.2.2.2.2.1)
  change n4r ≤ 6 at bn4
  obtain ⟨n8r, hn8, bn8, ln8⟩ := RL_n (s := 8) (f := 10) hX.2.2.1 (by decide) (fun _ _ h => h.2.2.2.2.2.2.2.2.2.2.1)
  change n8r ≤ 8 at bn8
  obtain ⟨n10r, hn10, bn10, ln10⟩ := RL_n (s := 10) (f := 12) hX.2.2.1 (by decide) (fun _ _ h => h.2.2.2.2.2.2.2.2.2.2.2.2.1)
  change n10r ≤ 4 at bn10
  rcases RL_st hX.2.2.1 with ⟨hL0, hst0⟩ | ⟨q, hq1, hst0⟩
  · skip
    refine ent (n := 58) z129 (by decide) rfl (by decide) (Nat.le_of_ble_eq_true rfl) (fun sc => ?_)
    refine And.intro (Wdo_0 hW) (Exists.intro _ (And.intro ha ?_))
    refine And.intro ⟨by omega, Nat.le_of_ble_eq_true rfl, Nat.le_refl _, Nat.le_refl _⟩ (And.intro (LWo_0 hL) ?_)
    refine C21 hL ?_
    refine And.intro (fun cz3 => ?_) (fun cz3 => False.elim (absurd (bi_ne0.mp cz3) (hst0)))
    refine And.intro ⟨by omega, Nat.le_of_ble_eq_true rfl, Nat.le_refl _, Nat.le_refl _⟩ (And.intro (Wdo_0 hW) ?_)
    refine C176 hW ?_
    refine And.intro ⟨rfl, trivial, Nat.le_refl _, Nat.le_refl _⟩ ?_
    refine h _ _ hW (fun Q2 h2 => ?_)
    refine ent (n := 54) z264 (by decide) rfl (by decide) (Nat.le_of_ble_eq_true rfl) (fun sc2 => ?_)
    refine And.intro (Wdo_142 hW) ?_
    refine And.intro (Wdo_142 hW) (Exists.intro _ (And.intro (show va_rf (mR m 142 3) = .null by rw [hL0.1]; rfl) ?_))
    refine And.intro ⟨by omega, Nat.le_of_ble_eq_true rfl, Nat.le_refl _, Nat.le_refl _⟩ (And.intro (Wdo_142 hW) ?_)
    refine C200 (m := (uI (uI m 0 0 (nI 1)) 142 0 (nI 0))) hW ?_
    refine And.intro ⟨rfl, trivial, Nat.le_refl _, Nat.le_refl _⟩ ?_
    exact h2 _ (Rel_ans hR (by decide))
  · skip
    obtain ⟨hq, w, u, ha0, ha1, hq0, hq1w, hw6, hu4, hwu, hgr⟩ := RL_q hq1
    obtain ⟨h158, hqz, hN, h3, ⟨T, hI⟩, hst, hla, hLQ, hSR⟩ := hq1
    have hq6 : mI m q 6 = nI n4r := hLQ.1.2.2.2.2.2.2.1.trans hn4
    have hq5 : mI m q 5 = nI n2r := hLQ.1.2.2.2.2.2.1.trans hn2
    refine ent (n := 58) z129 (by decide) rfl (by decide) (Nat.le_of_ble_eq_true rfl) (fun sc => ?_)
    refine And.intro (Wdo_0 hW) (Exists.intro _ (And.intro ha ?_))
    refine And.intro ⟨by omega, Nat.le_of_ble_eq_true rfl, Nat.le_refl _, Nat.le_refl _⟩ (And.intro (LWo_0 hL) ?_)
    refine C21 hL ?_
    refine And.intro (fun cz3 => False.elim (absurd (hst0) (bi_eq0.mp cz3))) (fun cz3 => ?_)
    refine And.intro (Wdo_0 hW) (Exists.intro _ (And.intro ha ?_))
    refine And.intro ⟨by omega, Nat.le_of_ble_eq_true rfl, Nat.le_refl _, Nat.le_refl _⟩ ?_
    refine C37 (by omega) hL ha0 ha1 hwu hn2 (by omega) hn4 (by omega) ?_
    refine And.intro (Wdo_0 hW) (Exists.intro _ (And.intro ha ?_))
    refine And.intro ⟨by omega, Nat.le_of_ble_eq_true rfl, Nat.le_refl _, Nat.le_refl _⟩ ?_
    refine C39 (by omega) hL ha0 ha1 hwu hn2 (by omega) hn4 (by omega) ?_
    refine And.intro ⟨by omega, Nat.le_of_ble_eq_true rfl, Nat.le_refl _, Nat.le_refl _⟩ (And.intro (Wdo_0 hW) ?_)
    refine C177 hW ?_
    refine And.intro ⟨rfl, trivial, Nat.le_refl _, Nat.le_refl _⟩ ?_
    refine h _ _ hW (fun Q2 h2 => ?_)
    refine ent (n := 54) z264 (by decide) rfl (by decide) (Nat.le_of_ble_eq_true rfl) (fun sc2 => ?_)
    refine And.intro (Wdo_142 hW) ?_
    refine And.intro (Wdo_142 hW) (Exists.intro _ (And.intro hq ?_))
    refine And.intro ⟨by omega, Nat.le_of_ble_eq_true rfl, Nat.le_refl _, Nat.le_refl _⟩ (And.intro (Wdo_142 hW) ?_)
    refine C263 (m := (uI (uI m 0 0 (nI 0)) 142 0 (nI 0))) (by omega) hW hN h158 hq (show mI (uI (uI m 0 0 (nI 0)) 142 0 (nI 0)) q 6 = nI n4r by rw [uI_ne (by omega), uI_ne (by omega)]; exact hq6) (by omega) (show mI (uI (uI m 0 0 (nI 0)) 142 0 (nI 0)) q 5 = nI n2r by rw [uI_ne (by omega), uI_ne (by omega)]; exact hq5) (by omega) ?_
    rw [uI_ne (m := (uI m 0 0 (nI 0))) (a := 142) (b := (q + 7)) (by omega)]
    rw [uI_ne (m := (uI m 0 0 (nI 0))) (a := 142) (b := q) (by omega)]
    rw [uI_ne (m := m) (a := 0) (b := (q + 7)) (by omega)]
    rw [uI_ne (m := m) (a := 0) (b := q) (by omega)]
    refine And.intro ⟨by omega, Nat.le_of_ble_eq_true rfl, Nat.le_refl _, Nat.le_refl _⟩ (And.intro (Wdo_142 hW) ?_)
    refine C202 (m := (uI (uI m 0 0 (nI 0)) 142 0 (nI 0))) hW ?_
    refine And.intro ⟨rfl, trivial, Nat.le_refl _, Nat.le_refl _⟩ ?_
    rw [hgr, nob_e (by omega) (gr_32 (f := mI m (a + 2)) (n := w * u) (fun x hx => hI.2.2.2.1 x (by omega))), hbF_c (f := mI m (q + 7)) (g := mI m (a + 7)) hLQ.2.2.2.2.2.1 (by omega) (by omega)]
    exact h2 _ (Rel_ans hR (by decide))
