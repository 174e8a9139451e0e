/-- the reference's spell -/
def spF (l b g : Int32) : Int32 := if b = nI 0 then l + g else if b = nI 1 then (if g < l then l - g else nI 0) else if b = nI 2 then l * g else l / g
theorem sp_ca {so am : Nat → Int32} {p L : Nat} (hs : iR (so p) 4) (ha : iR (am p) 10) (h1 : nI 1 ≤ am p) (hL : L ≤ 200000000) : spF (nI L) (so p) (am p) = caF so am p (nI L) ∧ ∃ w, w ≤ 9 * L + 9 ∧ caF so am p (nI L) = nI w := by
  obtain ⟨b, hb, eb⟩ := ha
  have hb1 : 1 ≤ b := by
    rw [eb, nI_leI (by decide) (by omega)] at h1
    exact h1
  obtain ⟨t, ht, et⟩ := hs
  unfold spF caF
  rw [et, eb]
  have hcase : t = 0 ∨ t = 1 ∨ t = 2 ∨ t = 3 := by omega
  have n00 : ∀ a b : Nat, a < 4 → b < 4 → a ≠ b → ¬ nI a = nI b := fun a b h1 h2 hn z => hn ((nI_eq (by omega) (by omega)).mp z)
  rcases hcase with rfl | rfl | rfl | rfl
  · rw [if_pos rfl, if_pos rfl, nI_add]
    exact ⟨rfl, _, by omega, rfl⟩
  · rw [if_neg (n00 1 0 (by decide) (by decide) (by decide)), if_pos rfl, if_neg (n00 1 0 (by decide) (by decide) (by decide)), if_pos rfl]
    by_cases hlt : b < L
    · rw [if_pos (nI_lt hlt (by omega)), pk_sub (by omega), if_pos (nI_lt (show 0 < L - b by omega) (by omega))]
      exact ⟨rfl, _, by omega, rfl⟩
    · have hn : ¬ nI 0 < nI L - nI b := by
        have ez1 : (nI L - nI b).toInt ≤ 0 := by
          rw [Int32.toInt_sub, nI_toInt (by omega), nI_toInt (by omega), Int.bmod_def]
          split <;> omega
        intro z
        rw [Int32.lt_iff_toInt_lt, show (nI 0).toInt = 0 by decide] at z
        omega
      rw [if_neg (Int32.not_lt.mpr (nI_le (show L ≤ b by omega) (by omega))), if_neg hn]
      exact ⟨rfl, 0, by omega, rfl⟩
  · rw [if_neg (n00 2 0 (by decide) (by decide) (by decide)), if_neg (n00 2 1 (by decide) (by decide) (by decide)), if_pos rfl, if_neg (n00 2 0 (by decide) (by decide) (by decide)), if_neg (n00 2 1 (by decide) (by decide) (by decide)), if_pos rfl, pk_mul]
    refine ⟨rfl, L * b, ?_, rfl⟩
    have : L * b ≤ L * 9 := Nat.mul_le_mul_left _ (by omega)
    omega
  · rw [if_neg (n00 3 0 (by decide) (by decide) (by decide)), if_neg (n00 3 1 (by decide) (by decide) (by decide)), if_neg (n00 3 2 (by decide) (by decide) (by decide)), if_neg (n00 3 0 (by decide) (by decide) (by decide)), if_neg (n00 3 1 (by decide) (by decide) (by decide)), if_neg (n00 3 2 (by decide) (by decide) (by decide)), if_neg (nI_nle (by omega) (by omega)), pk_div (by omega) (by omega) (by omega)]
    have : L / b ≤ L := Nat.div_le_self _ _
    exact ⟨rfl, _, by omega, rfl⟩
theorem C310 {d : Nat} {m : Mm} {Q : Option Value → Mm → Prop} {l b g : Int32} (hg : ¬ g = 0) (hQ : Q (some (.int (spF l b g))) m) : Cc d 0 0 310 [.int l, .int b, .int g] m Q := by
  refine ent (n := 66) z310 (by decide) rfl (by decide) (Nat.le_of_ble_eq_true rfl) (fun sc => ?_)
  refine And.intro (fun cz1 => ?_) (And.intro (fun cz1 => ?_) (And.intro (fun cz1 => ?_) (And.intro (fun cz1 => ?_) (trivial))))
  · -- case d
    refine And.intro hg ?_
    refine And.intro ⟨rfl, trivial, Nat.le_refl _, Nat.le_refl _⟩ ?_
    unfold spF at hQ
    rw [if_neg (fun z : b = nI 0 => absurd (show (nI 0).toInt < 0 ∨ (3 : Int) ≤ (nI 0).toInt from z ▸ cz1) (by decide)), if_neg (fun z : b = nI 1 => absurd (show (nI 1).toInt < 0 ∨ (3 : Int) ≤ (nI 1).toInt from z ▸ cz1) (by decide)), if_neg (fun z : b = nI 2 => absurd (show (nI 2).toInt < 0 ∨ (3 : Int) ≤ (nI 2).toInt from z ▸ cz1) (by decide))] at hQ
    exact hQ
  · -- case 0
    refine And.intro ⟨rfl, trivial, Nat.le_refl _, Nat.le_refl _⟩ ?_
    unfold spF at hQ
    rw [if_pos cz1] at hQ
    exact hQ
  · -- case 1
    refine And.intro (fun cz8 => ?_) (fun cz8 => ?_)
    · -- 8 taken: l ≤ g
      refine And.intro ⟨rfl, trivial, Nat.le_refl _, Nat.le_refl _⟩ ?_
      unfold spF at hQ
      rw [if_neg (fun z => absurd (cz1.symm.trans z) (by decide)), if_pos cz1, if_neg (Int32.not_lt.mpr cz8)] at hQ
      exact hQ
    · -- 8 not: ¬ l ≤ g
      refine And.intro ⟨rfl, trivial, Nat.le_refl _, Nat.le_refl _⟩ ?_
      unfold spF at hQ
      rw [if_neg (fun z => absurd (cz1.symm.trans z) (by decide)), if_pos cz1, if_pos (Int32.not_le.mp cz8)] at hQ
      exact hQ
  · -- case 2
    refine And.intro ⟨rfl, trivial, Nat.le_refl _, Nat.le_refl _⟩ ?_
    unfold spF at hQ
    rw [if_neg (fun z => absurd (cz1.symm.trans z) (by decide)), if_neg (fun z => absurd (cz1.symm.trans z) (by decide)), if_pos cz1] at hQ
    exact hQ
theorem io_b {so am : Nat → Int32} {ns l : Nat} (hl : l ≤ 99) (hsp : ∀ i, i < ns → iR (so i) 4 ∧ iR (am i) 10 ∧ nI 1 ≤ am i) : ∀ i, i ≤ ns → i ≤ 6 → ∃ w, w ≤ 110 * 10 ^ i ∧ ioQ so am (nI l) i = nI w
  | 0, _, _ => ⟨l, by omega, rfl⟩
  | i + 1, hi, h6 => by
    obtain ⟨w, hw, ew⟩ := io_b hl hsp i (by omega) (by omega)
    have hv := hsp i (by omega)
    have hp : 110 * 10 ^ i ≤ 110 * 10 ^ 5 := Nat.mul_le_mul_left _ (Nat.pow_le_pow_right (by decide) (by omega))
    obtain ⟨x, hx, ex⟩ := (sp_ca (so := so) (am := am) (p := i) (L := w) hv.1 hv.2.1 hv.2.2 (by omega)).2
    refine ⟨x, ?_, ?_⟩
    · rw [Nat.pow_succ]
      have : 1 ≤ 10 ^ i := Nat.one_le_pow _ _ (by decide)
      omega
    · rw [show ioQ so am (nI l) (i + 1) = caF so am i (ioQ so am (nI l) i) from fo_s, ew, ex]
theorem io_n {w i : Nat} (h : w ≤ 110 * 10 ^ i) (hi : i ≤ 6) : w ≤ 200000000 := by
  have hp : 110 * 10 ^ i ≤ 110 * 10 ^ 6 := Nat.mul_le_mul_left _ (Nat.pow_le_pow_right (by decide) (by omega))
  omega
theorem lleft {sc : Nat × (Nat → Int32)} {d : Nat} {m : Mm} {Q : Option Value → Mm → Prop} {q ns l : Nat} (hd : 2 ≤ d) (hW : Wd m.2.2) (hN : NW m.2.2 q) (h158 : 158 ≤ q) (hq : va_rf (mR m 142 3) = .ref q) (hns : mI m q 13 = nI ns) (hns6 : ns ≤ 6) (hsp : ∀ i, i < ns → iR (mI m (q + 20) i) 4 ∧ iR (mI m (q + 21) i) 10 ∧ nI 1 ≤ mI m (q + 21) i) (hl : l ≤ 99) (hQ : Q (some (.int (ioQ (mI m (q + 20)) (mI m (q + 21)) (nI l) ns))) (uI (uI m 142 1 (nI 0)) 142 2 (-nI 1)))  : ∀ (j i : Nat), i ≤ ns → ns + 1 ≤ i + j → Jj sc d 0 0 (mth 312) (pg P312 15).1 [some (.ref 142), some (.int (ioQ (mI m (q + 20)) (mI m (q + 21)) (nI l) i)), some (.int (nI i))] [] m 0 0 Q := by
  intro j
  induction j with
  | zero => intro i h1 h2; omega
  | succ j ih =>
    intro i h1 h2
    refine J_w z312 (i := 15) (by decide) 98 ?_
    refine And.intro (Wdo_142 hW) (Exists.intro _ (And.intro hq ?_))
    refine And.intro (NWo_0 hN) ?_
    rw [hns]
    refine And.intro (fun cz19 => ?_) (fun cz19 => ?_)
    · -- 19 taken: nI ns ≤ nI i
      have kz19 : ns ≤ i := kle (a := ns) (b := i) rfl rfl (by omega) (by omega) cz19
      refine And.intro ⟨by omega, Nat.le_of_ble_eq_true rfl, Nat.le_refl _, Nat.le_refl _⟩ (And.intro (Wdo_142 hW) ?_)
      refine C202 hW ?_
      refine And.intro ⟨rfl, trivial, Nat.le_refl _, Nat.le_refl _⟩ ?_
      rw [show i = ns by omega]
      exact hQ
    · -- 19 not: ¬ nI ns ≤ nI i
      have kz19 : i < ns := knle (a := ns) (b := i) rfl rfl (by omega) (by omega) cz19
      refine And.intro (Wdo_142 hW) (Exists.intro _ (And.intro hq ?_))
      refine And.intro (NWo_0 hN) (Exists.intro _ (And.intro (NWr_0_36 hN) ?_))
      refine And.intro (NWi_20 hN (vi rfl (by omega))) ?_
      rw [nI_clamp (show i < 2 ^ 31 by omega)]
      refine And.intro (Wdo_142 hW) (Exists.intro _ (And.intro hq ?_))
      refine And.intro (NWo_0 hN) (Exists.intro _ (And.intro (NWr_0_37 hN) ?_))
      refine And.intro (NWi_21 hN (vi rfl (by omega))) ?_
      rw [nI_clamp (show i < 2 ^ 31 by omega)]
      refine And.intro ⟨by omega, Nat.le_of_ble_eq_true rfl, Nat.le_refl _, Nat.le_refl _⟩ ?_
      have hv := hsp i kz19
      obtain ⟨lw, hlw, elw⟩ := io_b (so := mI m (q + 20)) (am := mI m (q + 21)) hl hsp i (by omega) (by omega)
      have hsc := (sp_ca (so := mI m (q + 20)) (am := mI m (q + 21)) (p := i) (L := lw) hv.1 hv.2.1 hv.2.2 (io_n hlw (by omega))).1
      have hne : ¬ mI m (q + 21) i = 0 := fun z => absurd hv.2.2 (by rw [z]; decide)
      refine C310 hne ?_
      rw [elw, hsc]
      show Jj sc d 0 0 (mth 312) (pg P312 15).1 [some (.ref 142), some (.int (caF (mI m (q + 20)) (mI m (q + 21)) i (nI lw))), some (.int (nI i + nI 1))] [] m 0 0 Q
      rw [show nI i + nI 1 = nI (i + 1) from by simp only [nI_add, pk_mul]]
      have w9 := ih (i + 1) (by omega) (by omega)
      rw [show ioQ (mI m (q + 20)) (mI m (q + 21)) (nI l) (i + 1) = _ from fo_s, show fo (fun p y => caF (mI m (q + 20)) (mI m (q + 21)) p y) (nI l) i = nI lw from elw] at w9
      exact w9
theorem luck_l {Λ E : Nat → Nat → Int32} {l : Nat} (h : Q1 Λ E) (hl : l < 100) (el : Λ 0 3 = nI l) : luF (E 0 16) = nI l := by
  unfold luF
  rcases Nat.eq_zero_or_pos (nv (Λ 1 3)) with z | z
  · rw [if_pos (h.1 z).1, ← (h.1 z).2, el]
  · have e := h.2 z
    rw [if_neg (fun y => nI_neg1 (show l < 2 ^ 31 by omega) (el.symm.trans (e.symm.trans y))), e, el]
theorem ioQ_c {so so2 am am2 : Nat → Int32} {l : Int32} {ns : Nat} (h : ∀ i, i < ns → so i = so2 i ∧ am i = am2 i) : ioQ so am l ns = ioQ so2 am2 l ns := by
  unfold ioQ
  refine fo_c (fun i hi y => ?_)
  unfold caF
  rw [(h i hi).1, (h i hi).2]
theorem P_left {d : Nat} {m : Mm} {Q : Option Value → Mm → Prop} {z : Nat} (hd : 16 ≤ d) (hR : Rel z m) (h : ∀ (r : Int32) m1, Wd m1.2.2 → (∀ Q2 : Option Value → Mm → Prop, (∀ m2, Rel z m2 → Q2 (some (.int r)) m2) → Cc d 0 0 312 [.ref 142] m1 Q2) → Q (some (.int r)) m1) : Cc d 0 0 154 [.ref 0] m Q := by
  obtain ⟨hW, hz, hS, a, b, hA, hX⟩ := id hR
  obtain ⟨hL, hLb, hab, ha, hb⟩ := RelA_L hW hA
  obtain ⟨n2r, hn2, bn2, ln2⟩ := RL_n (s := 2) (f := 5) hX.2.2.1 (by decide) (fun _ _ h => h.2.2.2.2.2.1)
  change n2r ≤ 6 at bn2
  obtain ⟨n4r, hn4, bn4, ln4⟩ := RL_n (s := 4) (f := 6) hX.2.2.1 (by decide) (fun _ _ h => h.2.2.2.2.2.2.1)
  change n4r ≤ 6 at bn4
  obtain ⟨n8r, hn8, bn8, ln8⟩ := RL_n (s := 8) (f := 10) hX.2.2.1 (by decide) (fun _ _ h => h.2.2.2.2.2.2.2.2.2.2.1)
  change n8r ≤ 8 at bn8
  obtain ⟨n10r, hn10, bn10, ln10⟩ := RL_n (s := 10) (f := 12) hX.2.2.1 (by decide) (fun _ _ h => h.2.2.2.2.2.2.2.2.2.2.2.2.1)
  change n10r ≤ 4 at bn10
  obtain ⟨ns, hns, bns, lns⟩ := RL_n (s := 11) (f := 13) hX.2.2.1 (by decide) (fun _ _ h => h.2.2.2.2.2.2.2.2.2.2.2.2.2.1)
  change ns ≤ 6 at bns
  rcases RL_st hX.2.2.1 with ⟨hL0, hst0⟩ | ⟨q, hq1, hst0⟩
  · skip
    refine ent (n := 48) z154 (by decide) rfl (by decide) (Nat.le_of_ble_eq_true rfl) (fun sc => ?_)
    refine And.intro (Wdo_0 hW) (Exists.intro _ (And.intro ha ?_))
    refine And.intro ⟨by omega, Nat.le_of_ble_eq_true rfl, Nat.le_refl _, Nat.le_refl _⟩ (And.intro (LWo_0 hL) ?_)
    refine C21 hL ?_
    refine And.intro (fun cz3 => ?_) (fun cz3 => False.elim (absurd (bi_ne0.mp cz3) (hst0)))
    refine And.intro ⟨by omega, Nat.le_of_ble_eq_true rfl, Nat.le_refl _, Nat.le_refl _⟩ (And.intro (Wdo_0 hW) ?_)
    refine C176 hW ?_
    refine And.intro ⟨rfl, trivial, Nat.le_refl _, Nat.le_refl _⟩ ?_
    refine h _ _ hW (fun Q2 h2 => ?_)
    refine ent (n := 98) z312 (by decide) rfl (by decide) (Nat.le_of_ble_eq_true rfl) (fun sc2 => ?_)
    refine And.intro (Wdo_142 hW) ?_
    refine And.intro (Wdo_142 hW) (Exists.intro _ (And.intro (show va_rf (mR m 142 3) = .null by rw [hL0.1]; rfl) ?_))
    refine And.intro ⟨by omega, Nat.le_of_ble_eq_true rfl, Nat.le_refl _, Nat.le_refl _⟩ (And.intro (Wdo_142 hW) ?_)
    refine C200 (m := (uI (uI m 0 0 (nI 1)) 142 0 (nI 0))) hW ?_
    refine And.intro ⟨rfl, trivial, Nat.le_refl _, Nat.le_refl _⟩ ?_
    exact h2 _ (Rel_ans hR (by decide))
  · skip
    obtain ⟨hq, w, u, ha0, ha1, hq0, hq1w, hw6, hu4, hwu, hgr⟩ := RL_q hq1
    obtain ⟨h158, hqz, hN, h3, ⟨T, hI⟩, hst, hla, hLQ, hSR⟩ := hq1
    have hq6 : mI m q 6 = nI n4r := hLQ.1.2.2.2.2.2.2.1.trans hn4
    have hq5 : mI m q 5 = nI n2r := hLQ.1.2.2.2.2.2.1.trans hn2
    have hq13 : mI m q 13 = nI ns := hLQ.1.2.2.2.2.2.2.2.2.2.2.2.2.2.1.trans hns
    have nss : nv (mI m (a + 1) 11) = ns := by rw [hns, nv_nI (by omega)]
    have hv5 : ∀ i, i < ns → iR (mI m (a + 12) i) 4 ∧ iR (mI m (a + 13) i) 10 ∧ nI 1 ≤ mI m (a + 13) i := fun i hi => hI.2.2.2.2.2.2.2.1 i (nss.symm ▸ hi)
    have hq11 : ∀ i, i < ns → mI m (q + 20) i = mI m (a + 12) i ∧ mI m (q + 21) i = mI m (a + 13) i := fun i hi => hLQ.2.2.2.2.2.2.2.2.2.2.2.1 i (nss.symm ▸ hi)
    have hspQ : ∀ i, i < ns → iR (mI m (q + 20) i) 4 ∧ iR (mI m (q + 21) i) 10 ∧ nI 1 ≤ mI m (q + 21) i := fun i hi => by rw [(hq11 i hi).1, (hq11 i hi).2]; exact hv5 i hi
    obtain ⟨l, hl, el⟩ := hI.2.2.2.2.2.2.2.2.2.2.2.2.2.1
    have hlk : luF (mI m q 16) = nI l := luck_l (Λ := lam m a) (E := lam m q) hLQ.2.1 hl el
    refine ent (n := 48) z154 (by decide) rfl (by decide) (Nat.le_of_ble_eq_true rfl) (fun sc => ?_)
    refine And.intro (Wdo_0 hW) (Exists.intro _ (And.intro ha ?_))
    refine And.intro ⟨by omega, Nat.le_of_ble_eq_true rfl, Nat.le_refl _, Nat.le_refl _⟩ (And.intro (LWo_0 hL) ?_)
    refine C21 hL ?_
    refine And.intro (fun cz3 => False.elim (absurd (hst0) (bi_eq0.mp cz3))) (fun cz3 => ?_)
    refine And.intro (Wdo_0 hW) (Exists.intro _ (And.intro ha ?_))
    refine And.intro ⟨by omega, Nat.le_of_ble_eq_true rfl, Nat.le_refl _, Nat.le_refl _⟩ ?_
    refine C95 (ns := ns) hL (by omega) hns (by omega) ?_
    refine And.intro ⟨by omega, Nat.le_of_ble_eq_true rfl, Nat.le_refl _, Nat.le_refl _⟩ (And.intro (Wdo_0 hW) ?_)
    refine C177 hW ?_
    refine And.intro ⟨rfl, trivial, Nat.le_refl _, Nat.le_refl _⟩ ?_
    refine h _ _ hW (fun Q2 h2 => ?_)
    refine ent (n := 98) z312 (by decide) rfl (by decide) (Nat.le_of_ble_eq_true rfl) (fun sc2 => ?_)
    refine And.intro (Wdo_142 hW) ?_
    refine And.intro (Wdo_142 hW) (Exists.intro _ (And.intro hq ?_))
    refine And.intro ⟨by omega, Nat.le_of_ble_eq_true rfl, Nat.le_refl _, Nat.le_refl _⟩ (And.intro (Wdo_142 hW) ?_)
    refine C311 (m := (uI (uI m 0 0 (nI 0)) 142 0 (nI 0))) hW hN hq ?_
    rw [uI_ne (b := q) (by omega), uI_ne (b := q) (by omega), hlk]
    show Jj sc2 d 0 0 (mth 312) (pg P312 15).1 [some (.ref 142), some (.int (nI l)), some (.int (nI 0))] [] (uI (uI m 0 0 (nI 0)) 142 0 (nI 0)) 0 0 Q2
    refine lleft (m := (uI (uI m 0 0 (nI 0)) 142 0 (nI 0))) (q := q) (ns := ns) (l := l) (by omega) hW hN h158 hq (show mI (uI (uI m 0 0 (nI 0)) 142 0 (nI 0)) q 13 = nI ns by rw [uI_ne (by omega), uI_ne (by omega)]; exact hq13) (by omega) (fun i hi => by rw [uI_ne (b := q + 20) (by omega), uI_ne (b := q + 20) (by omega), uI_ne (b := q + 21) (by omega), uI_ne (b := q + 21) (by omega)]; exact hspQ i hi) (by omega) ?_ (ns + 1) 0 (Nat.zero_le _) (by omega)
    rw [uI_ne (b := q + 20) (by omega), uI_ne (b := q + 20) (by omega), uI_ne (b := q + 21) (by omega), uI_ne (b := q + 21) (by omega), ioQ_c (so := mI m (q + 20)) (so2 := mI m (a + 12)) (am := mI m (q + 21)) (am2 := mI m (a + 13)) hq11, ← show mI m a 3 = nI l from el]
    exact h2 _ (Rel_ans hR (by decide))
