theorem bput_22 {m : Mm} {x n : Nat} {D : Nat → Nat → Int32} : (bput m x n D).2.2 = m.2.2 := rfl
theorem st_c {f g : Nat → Int32} {n nt : Nat} {ft gr : Int32} {D : Nat → Nat → Int32} (he : ∀ x, x < 180 → f x = g x) (hn : n ≤ 6) (ht : nt ≤ 6) : stQ f n ft gr D nt = stQ g n ft gr D nt := by
  unfold stQ
  refine fo_c (fun t h1 E => ?_)
  unfold stS smQ
  refine fo_c (fun s h2 E => ?_)
  unfold smS
  split
  · unfold skQ
    refine fo_c (fun u _ E => ?_)
    unfold skS bhF
    rw [hoF_c he (by omega) h2 hn]
  · rfl
theorem ft_64 {sn off : Nat → Int32} {ns : Nat} : ∀ {n : Nat}, n ≤ 6 → iR (ftQ sn off ns n) 64
  | 0, _ => ⟨0, by decide, rfl⟩
  | n + 1, hn => by
    obtain ⟨w, hw, ew⟩ := ft_64 (sn := sn) (off := off) (ns := ns) (n := n) (by omega)
    rw [show ftQ sn off ns (n + 1) = (if bi (fiP sn off ns n) = 0 then ftQ sn off ns n else ftQ sn off ns n ||| nI 1 <<< (nI n &&& 31)) from fo_s]
    split
    · exact ⟨w, hw, ew⟩
    · rw [ew]
      have := or_64 w hw n (by omega)
      exact ⟨_, this.1, this.2⟩
theorem and_64 : ∀ a, a < 64 → ∀ b, b < 64 → nv (bcF (nI a &&& nI b)) ≤ 6 ∧ bcF (nI a &&& nI b) = nI (nv (bcF (nI a &&& nI b))) := by decide +kernel
theorem bh_6 {off : Nat → Int32} {n t s u : Nat} {ft : Int32} (hn : n ≤ 6) (hf : iR ft 64) : bhF off n ft t s u ≤ nI 6 := by
  obtain ⟨a, ha, ea⟩ := hf
  obtain ⟨b, hb, eb⟩ := ho_64 (f := off) (t := t) (s := s) (h := nI u) hn
  unfold bhF
  rw [ea, eb]
  have h1 := and_64 a ha b hb
  have h2 := bc_64 a ha
  rw [h1.2, h2.2]
  generalize nv (bcF (nI a &&& nI b)) = x at h1 ⊢
  generalize nv (bcF (nI a)) = y at h2 ⊢
  split
  · rw [Int32.le_iff_toInt_le, Int32.toInt_sub, nI_toInt (by omega), nI_toInt (by omega), nI_toInt (by omega), Int.bmod_def]
    split <;> omega
  · exact nI_le h1.1 (by decide)
theorem sk_l {off : Nat → Int32} {n t s : Nat} {ft : Int32} {D : Nat → Nat → Int32} {u : Nat} : skS off n ft t s u D 0 1 ≤ D 0 1 ∧ skS off n ft t s u D 0 1 ≤ bhF off n ft t s u := by
  unfold skS
  by_cases h : D 0 1 ≤ bhF off n ft t s u
  · rw [if_pos h]; exact ⟨Int32.le_refl _, h⟩
  · rw [if_neg h]
    show bhF off n ft t s u ≤ D 0 1 ∧ bhF off n ft t s u ≤ bhF off n ft t s u
    exact ⟨Int32.le_of_lt (Int32.not_le.mp h), Int32.le_refl _⟩
theorem sk_q {off : Nat → Int32} {n t s : Nat} {ft : Int32} {D : Nat → Nat → Int32} : ∀ u, skQ off n ft t s D u 0 1 ≤ D 0 1
  | 0 => Int32.le_refl _
  | u + 1 => by
    rw [show skQ off n ft t s D (u + 1) = skS off n ft t s u (skQ off n ft t s D u) from fo_s]
    exact Int32.le_trans sk_l.1 (sk_q u)
theorem sk_6 {off : Nat → Int32} {n t s : Nat} {ft : Int32} {D : Nat → Nat → Int32} (hn : n ≤ 6) (hf : iR ft 64) : skQ off n ft t s D 24 0 1 ≤ nI 6 := by
  rw [show skQ off n ft t s D 24 = skS off n ft t s 23 (skQ off n ft t s D 23) from fo_s]
  exact Int32.le_trans sk_l.2 (bh_6 hn hf)
theorem sm_q {off : Nat → Int32} {n t : Nat} {ft gr : Int32} {D : Nat → Nat → Int32} : ∀ s, smQ off n ft gr t D s 0 1 ≤ D 0 1
  | 0 => Int32.le_refl _
  | s + 1 => by
    rw [show smQ off n ft gr t D (s + 1) = smS off n ft gr t s (smQ off n ft gr t D s) from fo_s]
    unfold smS
    split
    · exact Int32.le_trans (sk_q 24) (sm_q s)
    · exact sm_q s
theorem sm_6 {off : Nat → Int32} {n t s0 : Nat} {ft gr : Int32} {D : Nat → Nat → Int32} (hn : n ≤ 6) (hf : iR ft 64) (hb : bq gr (nI s0)) : ∀ s, s0 < s → smQ off n ft gr t D s 0 1 ≤ nI 6
  | 0, h => absurd h (Nat.not_lt_zero _)
  | s + 1, h => by
    rw [show smQ off n ft gr t D (s + 1) = smS off n ft gr t s (smQ off n ft gr t D s) from fo_s]
    unfold smS
    by_cases e : s0 = s
    · rw [← e, if_pos hb]
      exact sk_6 hn hf
    · have ih := sm_6 (off := off) (t := t) (D := D) hn hf hb s (by omega)
      split
      · exact Int32.le_trans (sk_q 24) ih
      · exact ih
theorem st_6 {off : Nat → Int32} {n s0 : Nat} {ft gr : Int32} {D : Nat → Nat → Int32} (hn : n ≤ 6) (hf : iR ft 64) (hb : bq gr (nI s0)) (h5 : s0 < 5) : ∀ nt, 0 < nt → stQ off n ft gr D nt 0 1 ≤ nI 6
  | 0, h => absurd h (Nat.not_lt_zero _)
  | t + 1, _ => by
    rw [show stQ off n ft gr D (t + 1) = stS off n ft gr t (stQ off n ft gr D t) from fo_s]
    exact sm_6 hn hf hb 5 h5
theorem gr_b {f : Nat → Int32} {x g : Nat} (hg : g < 32) (e : f x = nI g) : ∀ n, x < n → bq (grF f n) (nI g)
  | 0, h => absurd h (Nat.not_lt_zero _)
  | n + 1, h => by
    rw [grF_s, bq_or hg]
    by_cases h2 : x = n
    · refine Or.inr ?_
      rw [← h2, e]
      exact (bq_1 g hg g hg).mpr rfl
    · exact Or.inl (gr_b hg e n (by omega))
theorem C193 {d : Nat} {m : Mm} {Q : Option Value → Mm → Prop} {a ns n4r : Nat} (hd : 4 ≤ d) (hW : Wd m.2.2) (ha : va_rf (mR m 0 3) = .ref a) (hL : LW m.2.2 a) (hns : mI m (a + 1) 12 = nI ns) (bns : ns ≤ 8) (hseA : ∀ i, i < ns → iR (mI m (a + 14) (i * 4)) 6 ∧ iR (mI m (a + 14) (i * 4 + 1)) 5) (hn4 : mI m (a + 1) 4 = nI n4r) (bn4 : n4r ≤ 6) (h1 : ¬ 0 < mI m (a + 1) 0 → Q (some (.int (nI 1))) m) (h6 : 0 < mI m (a + 1) 0 → bcF (ftQ (mI m (a + 14)) (mI m (a + 7)) ns n4r) < nI 2 → Q (some (.int (nI 6))) m) (h0 : 0 < mI m (a + 1) 0 → ¬ bcF (ftQ (mI m (a + 14)) (mI m (a + 7)) ns n4r) < nI 2 → Q (some (.int (nI 0))) m) : Cc d 0 0 193 [.ref 0] m Q := by
  refine ent (n := 52) z193 (by decide) rfl (by decide) (Nat.le_of_ble_eq_true rfl) (fun sc => ?_)
  refine And.intro (Wdo_0 hW) (Exists.intro _ (And.intro ha ?_))
  refine And.intro ⟨by omega, Nat.le_of_ble_eq_true rfl, Nat.le_refl _, Nat.le_refl _⟩ (And.intro (LWo_0 hL) ?_)
  refine C21 hL ?_
  refine And.intro (fun cz3 => ?_) (fun cz3 => ?_)
  · -- 3 taken: ¬ bi (0 < mI m (a + 1) 0) = 0
    refine And.intro (Wdo_0 hW) (Exists.intro _ (And.intro ha ?_))
    refine And.intro ⟨by omega, Nat.le_of_ble_eq_true rfl, Nat.le_refl _, Nat.le_refl _⟩ ?_
    refine C87 (ns := ns) (n := n4r) hL hns (by omega) hseA hn4 (by omega) (by omega) ?_
    refine And.intro ⟨by omega, Nat.le_of_ble_eq_true rfl, Nat.le_refl _, Nat.le_refl _⟩ ?_
    refine C340 ?_
    refine And.intro (fun cz11 => ?_) (fun cz11 => ?_)
    · -- 11 taken: nI 2 ≤ bcF (ftQ (mI m (a + 14)) (mI m (a + 7)) ns n4r)
      refine And.intro ⟨rfl, trivial, Nat.le_refl _, Nat.le_refl _⟩ ?_
      exact h0 (bi_ne0.mp cz3) (Int32.not_lt.mpr cz11)
    · -- 11 not: ¬ nI 2 ≤ bcF (ftQ (mI m (a + 14)) (mI m (a + 7)) ns n4r)
      refine And.intro ⟨rfl, trivial, Nat.le_refl _, Nat.le_refl _⟩ ?_
      exact h6 (bi_ne0.mp cz3) (Int32.not_le.mp cz11)
  · -- 3 not: bi (0 < mI m (a + 1) 0) = 0
    refine And.intro ⟨rfl, trivial, Nat.le_refl _, Nat.le_refl _⟩ ?_
    exact h1 (bi_eq0.mp cz3)
theorem C319 {d : Nat} {m : Mm} {Q : Option Value → Mm → Prop} {q n nt ns : Nat} (hd : 4 ≤ d) (hW : Wd m.2.2) (hN : NW m.2.2 q) (h158 : 158 ≤ q) (hq : va_rf (mR m 142 3) = .ref q) (hn : mI m q 6 = nI n) (hn6 : n ≤ 6) (hnt : mI m q 5 = nI nt) (hnt6 : nt ≤ 6) (hns : mI m q 14 = nI ns) (hns8 : ns ≤ 8) (hse : ∀ i, i < ns → iR (mI m (q + 22) i) 6 ∧ iR (mI m (q + 23) i) 5) (h6 : bcF (rfQ (mI m (q + 7)) (mI m (q + 22)) (mI m (q + 23)) (mI m (q + 24)) (mI m (q + 25)) n ns) < nI 2 → Q (some (.int (nI 6))) m) (h0 : ¬ bcF (rfQ (mI m (q + 7)) (mI m (q + 22)) (mI m (q + 23)) (mI m (q + 24)) (mI m (q + 25)) n ns) < nI 2 → Q (some (.int (nI 0))) m) : Cc d 0 0 319 [.ref 142] m Q := by
  refine ent (n := 48) z319 (by decide) rfl (by decide) (Nat.le_of_ble_eq_true rfl) (fun sc => ?_)
  refine And.intro (Wdo_142 hW) (Exists.intro _ (And.intro hq ?_))
  refine And.intro ⟨by omega, Nat.le_of_ble_eq_true rfl, Nat.le_refl _, Nat.le_refl _⟩ (And.intro (Wdo_142 hW) ?_)
  refine C316 (ns := ns) (by omega) hW hN h158 hq hn hn6 hnt hnt6 hns hns8 hse ?_
  refine And.intro ⟨by omega, Nat.le_of_ble_eq_true rfl, Nat.le_refl _, Nat.le_refl _⟩ ?_
  refine C206 ?_
  refine And.intro (fun cz9 => ?_) (fun cz9 => ?_)
  · -- 9 taken: nI 2 ≤ bcF (rfQ (mI m (q + 7)) (mI m (q + 22)) (mI m (q + 23)) (mI m (q + 24)) (mI m (q + 25)) n ns)
    refine And.intro ⟨rfl, trivial, Nat.le_refl _, Nat.le_refl _⟩ ?_
    exact h0 (Int32.not_lt.mpr cz9)
  · -- 9 not: ¬ nI 2 ≤ bcF (rfQ (mI m (q + 7)) (mI m (q + 22)) (mI m (q + 23)) (mI m (q + 24)) (mI m (q + 25)) n ns)
    refine And.intro ⟨rfl, trivial, Nat.le_refl _, Nat.le_refl _⟩ ?_
    exact h6 (Int32.not_le.mp cz9)
theorem C319n {d : Nat} {m : Mm} {Q : Option Value → Mm → Prop} (hW : Wd m.2.2) (h3 : mR m 142 3 = none) (hQ : Q (some (.int (nI 1))) m) : Cc d 0 0 319 [.ref 142] m Q := by
  refine ent (n := 48) z319 (by decide) rfl (by decide) (Nat.le_of_ble_eq_true rfl) (fun sc => ?_)
  refine And.intro (Wdo_142 hW) (Exists.intro _ (And.intro (show va_rf (mR m 142 3) = .null by rw [h3]; rfl) ?_))
  refine And.intro ⟨rfl, trivial, Nat.le_refl _, Nat.le_refl _⟩ ?_
  exact hQ
theorem P_ask {d : Nat} {m : Mm} {Q : Option Value → Mm → Prop} {z : Nat} (hd : 16 ≤ d) (hR : Rel z m) (h : ∀ (r : Int32) m1, Wd m1.2.2 → (∀ Q2 : Option Value → Mm → Prop, (∀ m2, Rel z m2 → Q2 (some (.int r)) m2) → Cc d 0 0 320 [.ref 142] m1 Q2) → Q (some (.int r)) m1) : Cc d 0 0 157 [.ref 0] m Q := by
  obtain ⟨hW, hz, hS, a, b, hA, hX⟩ := id hR
  obtain ⟨hL, hLb, hab, ha, hb⟩ := RelA_L hW hA
  obtain ⟨n2r, hn2, bn2, ln2⟩ := RL_n (s := 2) (f := 5) hX.2.2.1 (by decide) (fun _ _ h => h.2.2.2.2.2.1)
  change n2r ≤ 6 at bn2
  obtain ⟨n4r, hn4, bn4, ln4⟩ := RL_n (s := 4) (f := 6) hX.2.2.1 (by decide) (fun _ _ h => h.2.2.2.2.2.2.1)
  change n4r ≤ 6 at bn4
  obtain ⟨n8r, hn8, bn8, ln8⟩ := RL_n (s := 8) (f := 10) hX.2.2.1 (by decide) (fun _ _ h => h.2.2.2.2.2.2.2.2.2.2.1)
  change n8r ≤ 8 at bn8
  obtain ⟨n10r, hn10, bn10, ln10⟩ := RL_n (s := 10) (f := 12) hX.2.2.1 (by decide) (fun _ _ h => h.2.2.2.2.2.2.2.2.2.2.2.2.1)
  change n10r ≤ 4 at bn10
  obtain ⟨ns, hns, bns, lns⟩ := RL_n (s := 12) (f := 14) hX.2.2.1 (by decide) (fun _ _ h => h.2.2.2.2.2.2.2.2.2.2.2.2.2.2)
  change ns ≤ 8 at bns
  rcases RL_st hX.2.2.1 with ⟨hL0, hst0⟩ | ⟨q, hq1, hst0⟩
  · have hns0 : ns = 0 := (nI_eq (by omega) (by decide)).mp (hns.symm.trans (hL0.2.2.2.1 12 (by decide)))
    refine ent (n := 60) z157 (by decide) rfl (by decide) (Nat.le_of_ble_eq_true rfl) (fun sc => ?_)
    refine And.intro ⟨by omega, Nat.le_of_ble_eq_true rfl, Nat.le_refl _, Nat.le_refl _⟩ (And.intro (Wdo_0 hW) ?_)
    refine C193 (ns := ns) (by omega) hW ha hL hns bns (fun i hi => absurd hi (by omega)) hn4 bn4 (fun hz9 => ?_) (fun hz9 _ => absurd hz9 hst0) (fun hz9 _ => absurd hz9 hst0)
    refine And.intro (fun cz4 => False.elim (absurd cz4 (by decide))) (fun cz4 => ?_)
    refine And.intro ⟨by omega, Nat.le_of_ble_eq_true rfl, Nat.le_refl _, Nat.le_refl _⟩ (And.intro (Wdo_0 hW) ?_)
    refine C176 hW ?_
    refine And.intro ⟨rfl, trivial, Nat.le_refl _, Nat.le_refl _⟩ ?_
    refine h _ _ hW (fun Q2 h2 => ?_)
    refine ent (n := 58) z320 (by decide) rfl (by decide) (Nat.le_of_ble_eq_true rfl) (fun sc2 => ?_)
    refine And.intro (Wdo_142 hW) ?_
    refine And.intro ⟨by omega, Nat.le_of_ble_eq_true rfl, Nat.le_refl _, Nat.le_refl _⟩ (And.intro (Wdo_142 hW) ?_)
    refine C319n (m := (uI (uI m 0 0 (nI 1)) 142 0 (nI 0))) hW (by rw [show mR (uI (uI m 0 0 (nI 1)) 142 0 (nI 0)) = mR m from rfl, hL0.1]) ?_
    refine And.intro (fun cr7 => False.elim (absurd cr7 (by decide))) (fun cr7 => ?_)
    refine And.intro ⟨by omega, Nat.le_of_ble_eq_true rfl, Nat.le_refl _, Nat.le_refl _⟩ (And.intro (Wdo_142 hW) ?_)
    refine C200 (m := (uI (uI m 0 0 (nI 1)) 142 0 (nI 0))) hW ?_
    refine And.intro ⟨rfl, trivial, Nat.le_refl _, Nat.le_refl _⟩ ?_
    exact h2 _ (Rel_ans hR (by decide))
  · skip
    obtain ⟨hq, w, u, ha0, ha1, hq0, hq1w, hw6, hu4, hwu, hgr⟩ := RL_q hq1
    obtain ⟨h158, hqz, hN, h3, ⟨T, hI⟩, hst, hla, hLQ, hSR⟩ := hq1
    have hq6 : mI m q 6 = nI n4r := hLQ.1.2.2.2.2.2.2.1.trans hn4
    have hq5 : mI m q 5 = nI n2r := hLQ.1.2.2.2.2.2.1.trans hn2
    have hq14 : mI m q 14 = nI ns := hLQ.1.2.2.2.2.2.2.2.2.2.2.2.2.2.2.trans hns
    have nss : nv (mI m (a + 1) 12) = ns := by rw [hns, nv_nI (by omega)]
    have n2s : nv (mI m (a + 1) 2) = n2r := by rw [hn2, nv_nI (by omega)]
    have hv6 : ∀ i, i < ns → iR (mI m (a + 14) (i * 4)) n2r ∧ iR (mI m (a + 14) (i * 4 + 1)) 5 ∧ iR (mI m (a + 14) (i * 4 + 2)) 24 ∧ iR (mI m (a + 14) (i * 4 + 3)) 2 := fun i hi => n2s ▸ hI.2.2.2.2.2.2.2.2.1 i (nss.symm ▸ hi)
    have hq12 : ∀ i, i < ns → mI m (q + 22) i = mI m (a + 14) (i * 4) ∧ mI m (q + 23) i = mI m (a + 14) (i * 4 + 1) ∧ mI m (q + 24) i = mI m (a + 14) (i * 4 + 2) ∧ mI m (q + 25) i = mI m (a + 14) (i * 4 + 3) := fun i hi => hLQ.2.2.2.2.2.2.2.2.2.2.2.2 i (nss.symm ▸ hi)
    have hseA : ∀ i, i < ns → iR (mI m (a + 14) (i * 4)) 6 ∧ iR (mI m (a + 14) (i * 4 + 1)) 5 := fun i hi => ⟨iR_up (hv6 i hi).1 (by omega), (hv6 i hi).2.1⟩
    have hseQ : ∀ i, i < ns → iR (mI m (q + 22) i) 6 ∧ iR (mI m (q + 23) i) 5 := fun i hi => by rw [(hq12 i hi).1, (hq12 i hi).2.1]; exact hseA i hi
    obtain ⟨cel, hcel, ecel⟩ := hI.2.2.2.1 0 (by decide)
    have hwu0 : 0 < w * u := by
      have v8 := hI.2.2.2.2.2.2.2.2.2.2.2.1 hst
      have ez1 : nv (mI m a 0) = w := by rw [ha0, nv_nI (by omega)]
      have ez2 : nv (mI m a 1) = u := by rw [ha1, nv_nI (by omega)]
      have ez3 : 2 ≤ nv (mI m a 0) := v8.1
      have ez4 : 1 ≤ nv (mI m a 1) := v8.2
      exact Nat.mul_pos (by omega) (by omega)
    have hn2p : 0 < n2r := by
      rcases Nat.eq_zero_or_pos n2r with z9 | z9
      · refine absurd (Or.inr (Or.inl ?_)) hla
        show mI m (a + 1) 2 = 0
        rw [hn2, z9]; rfl
      · exact z9
    refine ent (n := 60) z157 (by decide) rfl (by decide) (Nat.le_of_ble_eq_true rfl) (fun sc => ?_)
    refine And.intro ⟨by omega, Nat.le_of_ble_eq_true rfl, Nat.le_refl _, Nat.le_refl _⟩ (And.intro (Wdo_0 hW) ?_)
    refine C193 (ns := ns) (by omega) hW ha hL hns bns hseA hn4 bn4 (fun hz9 => absurd hst0 hz9) (fun _ hb6 => ?_) (fun _ hb6 => ?_)
    · -- a way behind the call
      refine And.intro (fun cz4 => False.elim (absurd cz4 (by decide))) (fun cz4 => ?_)
      refine And.intro ⟨by omega, Nat.le_of_ble_eq_true rfl, Nat.le_refl _, Nat.le_refl _⟩ (And.intro (Wdo_0 hW) ?_)
      refine C176 hW ?_
      refine And.intro ⟨rfl, trivial, Nat.le_refl _, Nat.le_refl _⟩ ?_
      refine h _ _ hW (fun Q2 h2 => ?_)
      refine ent (n := 58) z320 (by decide) rfl (by decide) (Nat.le_of_ble_eq_true rfl) (fun sc2 => ?_)
      refine And.intro (Wdo_142 hW) ?_
      refine And.intro ⟨by omega, Nat.le_of_ble_eq_true rfl, Nat.le_refl _, Nat.le_refl _⟩ (And.intro (Wdo_142 hW) ?_)
      have hcv : rfQ (mI (uI (uI m 0 0 (nI 6)) 142 0 (nI 0)) (q + 7)) (mI (uI (uI m 0 0 (nI 6)) 142 0 (nI 0)) (q + 22)) (mI (uI (uI m 0 0 (nI 6)) 142 0 (nI 0)) (q + 23)) (mI (uI (uI m 0 0 (nI 6)) 142 0 (nI 0)) (q + 24)) (mI (uI (uI m 0 0 (nI 6)) 142 0 (nI 0)) (q + 25)) n4r ns = ftQ (mI m (a + 14)) (mI m (a + 7)) ns n4r := by
        rw [uI_ne (b := q + 7) (by omega), uI_ne (b := q + 7) (by omega), uI_ne (b := q + 22) (by omega), uI_ne (b := q + 22) (by omega), uI_ne (b := q + 23) (by omega), uI_ne (b := q + 23) (by omega), uI_ne (b := q + 24) (by omega), uI_ne (b := q + 24) (by omega), uI_ne (b := q + 25) (by omega), uI_ne (b := q + 25) (by omega)]
        exact fit_e (off := mI m (q + 7)) (off2 := mI m (a + 7)) (th := mI m (q + 22)) (so := mI m (q + 23)) (ho := mI m (q + 24)) (ye := mI m (q + 25)) (sn := mI m (a + 14)) (by omega) hLQ.2.2.2.2.2.1 hq12 (fun i hi => ⟨(hseA i hi).1, (hseA i hi).2, (hv6 i hi).2.2.2⟩)
      refine C319 (m := (uI (uI m 0 0 (nI 6)) 142 0 (nI 0))) (ns := ns) (by omega) hW hN h158 hq (show mI (uI (uI m 0 0 (nI 6)) 142 0 (nI 0)) q 6 = nI n4r by rw [uI_ne (by omega), uI_ne (by omega)]; exact hq6) (by omega) (show mI (uI (uI m 0 0 (nI 6)) 142 0 (nI 0)) q 5 = nI n2r by rw [uI_ne (by omega), uI_ne (by omega)]; exact hq5) (by omega) (show mI (uI (uI m 0 0 (nI 6)) 142 0 (nI 0)) q 14 = nI ns by rw [uI_ne (by omega), uI_ne (by omega)]; exact hq14) (by omega) (fun i hi => by rw [uI_ne (b := q + 22) (by omega), uI_ne (b := q + 22) (by omega), uI_ne (b := q + 23) (by omega), uI_ne (b := q + 23) (by omega)]; exact hseQ i hi) (fun hz9 => ?_) (fun hz9 => ?_)
      · -- a way behind the call
        refine And.intro (fun cr7 => False.elim (absurd cr7 (by decide))) (fun cr7 => ?_)
        refine And.intro ⟨by omega, Nat.le_of_ble_eq_true rfl, Nat.le_refl _, Nat.le_refl _⟩ (And.intro (Wdo_142 hW) ?_)
        refine C200 (m := (uI (uI m 0 0 (nI 6)) 142 0 (nI 0))) hW ?_
        refine And.intro ⟨rfl, trivial, Nat.le_refl _, Nat.le_refl _⟩ ?_
        exact h2 _ (Rel_ans hR (by decide))
      · -- a way behind the call
        rw [hcv] at hz9
        exact absurd hb6 hz9
    · -- a way behind the call
      refine And.intro (fun cz4 => ?_) (fun cz4 => False.elim (absurd cz4 (by decide)))
      refine And.intro (Wdo_0 hW) (Exists.intro _ (And.intro (Wdr_0_11 hW) ?_))
      refine And.intro (Wdo_0 hW) (Exists.intro _ (And.intro ha ?_))
      refine And.intro ⟨by omega, Nat.le_of_ble_eq_true rfl, Nat.le_refl _, Nat.le_refl _⟩ (And.intro (Wdo_141 hW) ?_)
      have hpp := (bput_self (m := m) (x := 141) (n := 1)).symm
      generalize (fun f => mI m (141 + f)) = DD at hpp
      rw [hpp]
      refine D89 (n := n4r) (nt := n2r) (ns := ns) (w := w) (h := u) (by omega) hW hL (by omega) hn2 (by omega) hn4 (by omega) ha0 ha1 hwu hns (by omega) hseA ?_
      clear hpp
      have p141 : mI (bput m 141 1 (stQ (mI m (a + 7)) n4r (ftQ (mI m (a + 14)) (mI m (a + 7)) ns n4r) (grF (mI m (a + 2)) (w * u)) (skZ DD) n2r)) 141 = (stQ (mI m (a + 7)) n4r (ftQ (mI m (a + 14)) (mI m (a + 7)) ns n4r) (grF (mI m (a + 2)) (w * u)) (skZ DD) n2r) 0 := bput_0 (x := 141) (by decide)
      have po : ∀ r, r ≠ 141 → mI (bput m 141 1 (stQ (mI m (a + 7)) n4r (ftQ (mI m (a + 14)) (mI m (a + 7)) ns n4r) (grF (mI m (a + 2)) (w * u)) (skZ DD) n2r)) r = mI m r := fun r hr => by
        rcases Nat.lt_or_ge r 141 with z9 | z9
        · exact bput_lo (by omega)
        · exact bput_hi (by omega)
      have a22 : (bput m 141 1 (stQ (mI m (a + 7)) n4r (ftQ (mI m (a + 14)) (mI m (a + 7)) ns n4r) (grF (mI m (a + 2)) (w * u)) (skZ DD) n2r)).2.2 = m.2.2 := bput_22
      generalize hST : stQ (mI m (a + 7)) n4r (ftQ (mI m (a + 14)) (mI m (a + 7)) ns n4r) (grF (mI m (a + 2)) (w * u)) (skZ DD) n2r = SS at p141 po a22 ⊢
      generalize bput m 141 1 SS = m9 at p141 po a22 ⊢
      have hW0 := hW
      have hW : Wd m9.2.2 := by rw [a22]; exact hW0
      have hq6 : mI m9 q 6 = nI n4r := by rw [po q (by omega)]; exact hq6
      have hq5 : mI m9 q 5 = nI n2r := by rw [po q (by omega)]; exact hq5
      have hq14 : mI m9 q 14 = nI ns := by rw [po q (by omega)]; exact hq14
      have hseQ : ∀ i, i < ns → iR (mI m9 (q + 22) i) 6 ∧ iR (mI m9 (q + 23) i) 5 := fun i hi => by rw [po (q + 22) (by omega), po (q + 23) (by omega)]; exact hseQ i hi
      have hq : va_rf (mR m9 142 3) = .ref q := by rw [show mR m9 = mR m from congrArg (fun w : WR => w.1) a22]; exact hq
      have hN : NW m9.2.2 q := by rw [a22]; exact hN
      refine And.intro (Wdo_0 hW) (Exists.intro _ (And.intro (Wdr_0_11 hW) ?_))
      refine And.intro (Wdo_141 hW) ?_
      refine And.intro ⟨by omega, Nat.le_of_ble_eq_true rfl, Nat.le_refl _, Nat.le_refl _⟩ (And.intro (Wdo_0 hW) ?_)
      refine C177 hW ?_
      refine And.intro ⟨rfl, trivial, Nat.le_refl _, Nat.le_refl _⟩ ?_
      refine h _ _ hW (fun Q2 h2 => ?_)
      refine ent (n := 58) z320 (by decide) rfl (by decide) (Nat.le_of_ble_eq_true rfl) (fun sc2 => ?_)
      refine And.intro (Wdo_142 hW) ?_
      refine And.intro ⟨by omega, Nat.le_of_ble_eq_true rfl, Nat.le_refl _, Nat.le_refl _⟩ (And.intro (Wdo_142 hW) ?_)
      have hcv : rfQ (mI (uI (uI m9 0 0 (nI 0)) 142 0 (nI 0)) (q + 7)) (mI (uI (uI m9 0 0 (nI 0)) 142 0 (nI 0)) (q + 22)) (mI (uI (uI m9 0 0 (nI 0)) 142 0 (nI 0)) (q + 23)) (mI (uI (uI m9 0 0 (nI 0)) 142 0 (nI 0)) (q + 24)) (mI (uI (uI m9 0 0 (nI 0)) 142 0 (nI 0)) (q + 25)) n4r ns = ftQ (mI m (a + 14)) (mI m (a + 7)) ns n4r := by
        rw [uI_ne (b := q + 7) (by omega), uI_ne (b := q + 7) (by omega), po (q + 7) (by omega), uI_ne (b := q + 22) (by omega), uI_ne (b := q + 22) (by omega), po (q + 22) (by omega), uI_ne (b := q + 23) (by omega), uI_ne (b := q + 23) (by omega), po (q + 23) (by omega), uI_ne (b := q + 24) (by omega), uI_ne (b := q + 24) (by omega), po (q + 24) (by omega), uI_ne (b := q + 25) (by omega), uI_ne (b := q + 25) (by omega), po (q + 25) (by omega)]
        exact fit_e (off := mI m (q + 7)) (off2 := mI m (a + 7)) (th := mI m (q + 22)) (so := mI m (q + 23)) (ho := mI m (q + 24)) (ye := mI m (q + 25)) (sn := mI m (a + 14)) (by omega) hLQ.2.2.2.2.2.1 hq12 (fun i hi => ⟨(hseA i hi).1, (hseA i hi).2, (hv6 i hi).2.2.2⟩)
      refine C319 (m := (uI (uI m9 0 0 (nI 0)) 142 0 (nI 0))) (ns := ns) (by omega) hW hN h158 hq (show mI (uI (uI m9 0 0 (nI 0)) 142 0 (nI 0)) q 6 = nI n4r by rw [uI_ne (by omega), uI_ne (by omega)]; exact hq6) (by omega) (show mI (uI (uI m9 0 0 (nI 0)) 142 0 (nI 0)) q 5 = nI n2r by rw [uI_ne (by omega), uI_ne (by omega)]; exact hq5) (by omega) (show mI (uI (uI m9 0 0 (nI 0)) 142 0 (nI 0)) q 14 = nI ns by rw [uI_ne (by omega), uI_ne (by omega)]; exact hq14) (by omega) (fun i hi => by rw [uI_ne (b := q + 22) (by omega), uI_ne (b := q + 22) (by omega), uI_ne (b := q + 23) (by omega), uI_ne (b := q + 23) (by omega)]; exact hseQ i hi) (fun hz9 => ?_) (fun hz9 => ?_)
      · -- a way behind the call
        rw [hcv] at hz9
        exact absurd hz9 hb6
      · -- a way behind the call
        refine And.intro (fun cr7 => ?_) (fun cr7 => False.elim (absurd cr7 (by decide)))
        refine And.intro ⟨by omega, Nat.le_of_ble_eq_true rfl, Nat.le_refl _, Nat.le_refl _⟩ (And.intro (Wdo_142 hW) ?_)
        refine C318 (m := (uI (uI m9 0 0 (nI 0)) 142 0 (nI 0))) (ns := ns) (D := DD) (by omega) hW hN h158 hq (show mI (uI (uI m9 0 0 (nI 0)) 142 0 (nI 0)) q 6 = nI n4r by rw [uI_ne (by omega), uI_ne (by omega)]; exact hq6) (by omega) (show mI (uI (uI m9 0 0 (nI 0)) 142 0 (nI 0)) q 5 = nI n2r by rw [uI_ne (by omega), uI_ne (by omega)]; exact hq5) (by omega) (show mI (uI (uI m9 0 0 (nI 0)) 142 0 (nI 0)) q 14 = nI ns by rw [uI_ne (by omega), uI_ne (by omega)]; exact hq14) (by omega) (fun i hi => by rw [uI_ne (b := q + 22) (by omega), uI_ne (b := q + 22) (by omega), uI_ne (b := q + 23) (by omega), uI_ne (b := q + 23) (by omega)]; exact hseQ i hi) (fun A9 M9 has => ?_)
        rw [hcv, uI_ne (b := q + 7) (by omega), uI_ne (b := q + 7) (by omega), po (q + 7) (by omega), uI_ne (b := q) (by omega), uI_ne (b := q) (by omega), po q (by omega), hgr, st_c (f := mI m (q + 7)) (g := mI m (a + 7)) hLQ.2.2.2.2.2.1 (by omega) (by omega), hST] at has
        refine And.intro (Wdo_142 hW) ?_
        refine And.intro ⟨by omega, Nat.le_of_ble_eq_true rfl, Nat.le_refl _, Nat.le_refl _⟩ (And.intro (Wdo_142 hW) ?_)
        refine C202 (m := (asM (uI (uI m9 0 0 (nI 0)) 142 0 (nI 0)) A9 M9)) hW ?_
        refine And.intro ⟨rfl, trivial, Nat.le_refl _, Nat.le_refl _⟩ ?_
        have hv9 : mI (asM (uI (uI m9 0 0 (nI 0)) 142 0 (nI 0)) A9 M9) 142 33 = mI m9 141 0 := by
          rw [as_33, p141]
          have h67 : SS 0 1 ≤ nI 6 := by rw [← hST]; exact st_6 (by omega) (ft_64 (by omega)) (gr_b (by omega) ecel (w * u) hwu0) hcel n2r hn2p
          exact (has.2.resolve_left (fun z9 => by rw [has.1, z9] at h67; exact absurd h67 (by decide))).symm
        rw [hv9]
        have m0 : ∀ r, r ≠ 0 → r ≠ 142 → mI (uI (uI (asM (uI (uI m9 0 0 (nI 0)) 142 0 (nI 0)) A9 M9) 142 1 (nI 0)) 142 2 (-nI 1)) r = mI m9 r := fun r h1 h3 => by rw [uI_ne h3, uI_ne h3, as_o h3, uI_ne h3, uI_ne h1]
        have x0 : ∀ x, x ≠ 0 → x ≠ 1 → x ≠ 2 → x ≠ 33 → x ≠ 34 → mI (uI (uI (asM (uI (uI m9 0 0 (nI 0)) 142 0 (nI 0)) A9 M9) 142 1 (nI 0)) 142 2 (-nI 1)) 142 x = mI m 142 x := fun x g0 g1 g2 g3 g4 => by rw [uI_eq, upd_o g2, uI_eq, upd_o g1, as_x g3 g4, uI_eq, upd_o g0, uI_ne (by decide), po 142 (by decide)]
        have y0 : ∀ x, x ≠ 0 → mI (uI (uI (asM (uI (uI m9 0 0 (nI 0)) 142 0 (nI 0)) A9 M9) 142 1 (nI 0)) 142 2 (-nI 1)) 0 x = mI m 0 x := fun x g0 => by rw [uI_ne (by decide), uI_ne (by decide), as_o (by decide), uI_ne (by decide), uI_eq, upd_o g0, po 0 (by decide)]
        exact h2 _ (Rel_fin (x := nI 0) hR (by rw [uI_22, uI_22, as_22, uI_22, uI_22]; exact a22) (fun r g1 g2 g3 => (m0 r g2 g3).trans (po r (fun e => g1 (by unfold scr; omega)))) (fun _ => (m0 140 (by decide) (by decide)).trans (po 140 (by decide))) (by rw [uI_ne (by decide), uI_ne (by decide), as_o (by decide), uI_ne (by decide), uI_eq, upd_e]) (y0 1 (by decide)) (y0 12 (by decide)) (by rw [uI_eq, upd_o (by decide), uI_eq, upd_e]) (by rw [uI_eq, upd_e]) (x0 14 (by decide) (by decide) (by decide) (by decide) (by decide)) (x0 6 (by decide) (by decide) (by decide) (by decide) (by decide)) (x0 21 (by decide) (by decide) (by decide) (by decide) (by decide)) (x0 22 (by decide) (by decide) (by decide) (by decide) (by decide)) (by decide))
theorem P_askMost {d : Nat} {m : Mm} {Q : Option Value → Mm → Prop} {z : Nat} (hd : 16 ≤ d) (hR : Rel z m) (h : ∀ (r : Int32) m1, Wd m1.2.2 → (∀ Q2 : Option Value → Mm → Prop, (∀ m2, Rel z m2 → Q2 (some (.int r)) m2) → Cc d 0 0 321 [.ref 142] m1 Q2) → Q (some (.int r)) m1) : Cc d 0 0 158 [.ref 0] m Q := by
  obtain ⟨hW, hz, hS, a, b, hA, hX⟩ := id hR
  obtain ⟨hL, hLb, hab, ha, hb⟩ := RelA_L hW hA
  obtain ⟨n2r, hn2, bn2, ln2⟩ := RL_n (s := 2) (f := 5) hX.2.2.1 (by decide) (fun _ _ h => h.2.2.2.2.2.1)
  change n2r ≤ 6 at bn2
  obtain ⟨n4r, hn4, bn4, ln4⟩ := RL_n (s := 4) (f := 6) hX.2.2.1 (by decide) (fun _ _ h => h.2.2.2.2.2.2.1)
  change n4r ≤ 6 at bn4
  obtain ⟨n8r, hn8, bn8, ln8⟩ := RL_n (s := 8) (f := 10) hX.2.2.1 (by decide) (fun _ _ h => h.2.2.2.2.2.2.2.2.2.2.1)
  change n8r ≤ 8 at bn8
  obtain ⟨n10r, hn10, bn10, ln10⟩ := RL_n (s := 10) (f := 12) hX.2.2.1 (by decide) (fun _ _ h => h.2.2.2.2.2.2.2.2.2.2.2.2.1)
  change n10r ≤ 4 at bn10
  obtain ⟨ns, hns, bns, lns⟩ := RL_n (s := 12) (f := 14) hX.2.2.1 (by decide) (fun _ _ h => h.2.2.2.2.2.2.2.2.2.2.2.2.2.2)
  change ns ≤ 8 at bns
  rcases RL_st hX.2.2.1 with ⟨hL0, hst0⟩ | ⟨q, hq1, hst0⟩
  · have hns0 : ns = 0 := (nI_eq (by omega) (by decide)).mp (hns.symm.trans (hL0.2.2.2.1 12 (by decide)))
    refine ent (n := 60) z158 (by decide) rfl (by decide) (Nat.le_of_ble_eq_true rfl) (fun sc => ?_)
    refine And.intro ⟨by omega, Nat.le_of_ble_eq_true rfl, Nat.le_refl _, Nat.le_refl _⟩ (And.intro (Wdo_0 hW) ?_)
    refine C193 (ns := ns) (by omega) hW ha hL hns bns (fun i hi => absurd hi (by omega)) hn4 bn4 (fun hz9 => ?_) (fun hz9 _ => absurd hz9 hst0) (fun hz9 _ => absurd hz9 hst0)
    refine And.intro (fun cz4 => False.elim (absurd cz4 (by decide))) (fun cz4 => ?_)
    refine And.intro ⟨by omega, Nat.le_of_ble_eq_true rfl, Nat.le_refl _, Nat.le_refl _⟩ (And.intro (Wdo_0 hW) ?_)
    refine C176 hW ?_
    refine And.intro ⟨rfl, trivial, Nat.le_refl _, Nat.le_refl _⟩ ?_
    refine h _ _ hW (fun Q2 h2 => ?_)
    refine ent (n := 58) z321 (by decide) rfl (by decide) (Nat.le_of_ble_eq_true rfl) (fun sc2 => ?_)
    refine And.intro (Wdo_142 hW) ?_
    refine And.intro ⟨by omega, Nat.le_of_ble_eq_true rfl, Nat.le_refl _, Nat.le_refl _⟩ (And.intro (Wdo_142 hW) ?_)
    refine C319n (m := (uI (uI m 0 0 (nI 1)) 142 0 (nI 0))) hW (by rw [show mR (uI (uI m 0 0 (nI 1)) 142 0 (nI 0)) = mR m from rfl, hL0.1]) ?_
    refine And.intro (fun cr7 => False.elim (absurd cr7 (by decide))) (fun cr7 => ?_)
    refine And.intro ⟨by omega, Nat.le_of_ble_eq_true rfl, Nat.le_refl _, Nat.le_refl _⟩ (And.intro (Wdo_142 hW) ?_)
    refine C200 (m := (uI (uI m 0 0 (nI 1)) 142 0 (nI 0))) hW ?_
    refine And.intro ⟨rfl, trivial, Nat.le_refl _, Nat.le_refl _⟩ ?_
    exact h2 _ (Rel_ans hR (by decide))
  · skip
    obtain ⟨hq, w, u, ha0, ha1, hq0, hq1w, hw6, hu4, hwu, hgr⟩ := RL_q hq1
    obtain ⟨h158, hqz, hN, h3, ⟨T, hI⟩, hst, hla, hLQ, hSR⟩ := hq1
    have hq6 : mI m q 6 = nI n4r := hLQ.1.2.2.2.2.2.2.1.trans hn4
    have hq5 : mI m q 5 = nI n2r := hLQ.1.2.2.2.2.2.1.trans hn2
    have hq14 : mI m q 14 = nI ns := hLQ.1.2.2.2.2.2.2.2.2.2.2.2.2.2.2.trans hns
    have nss : nv (mI m (a + 1) 12) = ns := by rw [hns, nv_nI (by omega)]
    have n2s : nv (mI m (a + 1) 2) = n2r := by rw [hn2, nv_nI (by omega)]
    have hv6 : ∀ i, i < ns → iR (mI m (a + 14) (i * 4)) n2r ∧ iR (mI m (a + 14) (i * 4 + 1)) 5 ∧ iR (mI m (a + 14) (i * 4 + 2)) 24 ∧ iR (mI m (a + 14) (i * 4 + 3)) 2 := fun i hi => n2s ▸ hI.2.2.2.2.2.2.2.2.1 i (nss.symm ▸ hi)
    have hq12 : ∀ i, i < ns → mI m (q + 22) i = mI m (a + 14) (i * 4) ∧ mI m (q + 23) i = mI m (a + 14) (i * 4 + 1) ∧ mI m (q + 24) i = mI m (a + 14) (i * 4 + 2) ∧ mI m (q + 25) i = mI m (a + 14) (i * 4 + 3) := fun i hi => hLQ.2.2.2.2.2.2.2.2.2.2.2.2 i (nss.symm ▸ hi)
    have hseA : ∀ i, i < ns → iR (mI m (a + 14) (i * 4)) 6 ∧ iR (mI m (a + 14) (i * 4 + 1)) 5 := fun i hi => ⟨iR_up (hv6 i hi).1 (by omega), (hv6 i hi).2.1⟩
    have hseQ : ∀ i, i < ns → iR (mI m (q + 22) i) 6 ∧ iR (mI m (q + 23) i) 5 := fun i hi => by rw [(hq12 i hi).1, (hq12 i hi).2.1]; exact hseA i hi
    obtain ⟨cel, hcel, ecel⟩ := hI.2.2.2.1 0 (by decide)
    have hwu0 : 0 < w * u := by
      have v8 := hI.2.2.2.2.2.2.2.2.2.2.2.1 hst
      have ez1 : nv (mI m a 0) = w := by rw [ha0, nv_nI (by omega)]
      have ez2 : nv (mI m a 1) = u := by rw [ha1, nv_nI (by omega)]
      have ez3 : 2 ≤ nv (mI m a 0) := v8.1
      have ez4 : 1 ≤ nv (mI m a 1) := v8.2
      exact Nat.mul_pos (by omega) (by omega)
    have hn2p : 0 < n2r := by
      rcases Nat.eq_zero_or_pos n2r with z9 | z9
      · refine absurd (Or.inr (Or.inl ?_)) hla
        show mI m (a + 1) 2 = 0
        rw [hn2, z9]; rfl
      · exact z9
    refine ent (n := 60) z158 (by decide) rfl (by decide) (Nat.le_of_ble_eq_true rfl) (fun sc => ?_)
    refine And.intro ⟨by omega, Nat.le_of_ble_eq_true rfl, Nat.le_refl _, Nat.le_refl _⟩ (And.intro (Wdo_0 hW) ?_)
    refine C193 (ns := ns) (by omega) hW ha hL hns bns hseA hn4 bn4 (fun hz9 => absurd hst0 hz9) (fun _ hb6 => ?_) (fun _ hb6 => ?_)
    · -- a way behind the call
      refine And.intro (fun cz4 => False.elim (absurd cz4 (by decide))) (fun cz4 => ?_)
      refine And.intro ⟨by omega, Nat.le_of_ble_eq_true rfl, Nat.le_refl _, Nat.le_refl _⟩ (And.intro (Wdo_0 hW) ?_)
      refine C176 hW ?_
      refine And.intro ⟨rfl, trivial, Nat.le_refl _, Nat.le_refl _⟩ ?_
      refine h _ _ hW (fun Q2 h2 => ?_)
      refine ent (n := 58) z321 (by decide) rfl (by decide) (Nat.le_of_ble_eq_true rfl) (fun sc2 => ?_)
      refine And.intro (Wdo_142 hW) ?_
      refine And.intro ⟨by omega, Nat.le_of_ble_eq_true rfl, Nat.le_refl _, Nat.le_refl _⟩ (And.intro (Wdo_142 hW) ?_)
      have hcv : rfQ (mI (uI (uI m 0 0 (nI 6)) 142 0 (nI 0)) (q + 7)) (mI (uI (uI m 0 0 (nI 6)) 142 0 (nI 0)) (q + 22)) (mI (uI (uI m 0 0 (nI 6)) 142 0 (nI 0)) (q + 23)) (mI (uI (uI m 0 0 (nI 6)) 142 0 (nI 0)) (q + 24)) (mI (uI (uI m 0 0 (nI 6)) 142 0 (nI 0)) (q + 25)) n4r ns = ftQ (mI m (a + 14)) (mI m (a + 7)) ns n4r := by
        rw [uI_ne (b := q + 7) (by omega), uI_ne (b := q + 7) (by omega), uI_ne (b := q + 22) (by omega), uI_ne (b := q + 22) (by omega), uI_ne (b := q + 23) (by omega), uI_ne (b := q + 23) (by omega), uI_ne (b := q + 24) (by omega), uI_ne (b := q + 24) (by omega), uI_ne (b := q + 25) (by omega), uI_ne (b := q + 25) (by omega)]
        exact fit_e (off := mI m (q + 7)) (off2 := mI m (a + 7)) (th := mI m (q + 22)) (so := mI m (q + 23)) (ho := mI m (q + 24)) (ye := mI m (q + 25)) (sn := mI m (a + 14)) (by omega) hLQ.2.2.2.2.2.1 hq12 (fun i hi => ⟨(hseA i hi).1, (hseA i hi).2, (hv6 i hi).2.2.2⟩)
      refine C319 (m := (uI (uI m 0 0 (nI 6)) 142 0 (nI 0))) (ns := ns) (by omega) hW hN h158 hq (show mI (uI (uI m 0 0 (nI 6)) 142 0 (nI 0)) q 6 = nI n4r by rw [uI_ne (by omega), uI_ne (by omega)]; exact hq6) (by omega) (show mI (uI (uI m 0 0 (nI 6)) 142 0 (nI 0)) q 5 = nI n2r by rw [uI_ne (by omega), uI_ne (by omega)]; exact hq5) (by omega) (show mI (uI (uI m 0 0 (nI 6)) 142 0 (nI 0)) q 14 = nI ns by rw [uI_ne (by omega), uI_ne (by omega)]; exact hq14) (by omega) (fun i hi => by rw [uI_ne (b := q + 22) (by omega), uI_ne (b := q + 22) (by omega), uI_ne (b := q + 23) (by omega), uI_ne (b := q + 23) (by omega)]; exact hseQ i hi) (fun hz9 => ?_) (fun hz9 => ?_)
      · -- a way behind the call
        refine And.intro (fun cr7 => False.elim (absurd cr7 (by decide))) (fun cr7 => ?_)
        refine And.intro ⟨by omega, Nat.le_of_ble_eq_true rfl, Nat.le_refl _, Nat.le_refl _⟩ (And.intro (Wdo_142 hW) ?_)
        refine C200 (m := (uI (uI m 0 0 (nI 6)) 142 0 (nI 0))) hW ?_
        refine And.intro ⟨rfl, trivial, Nat.le_refl _, Nat.le_refl _⟩ ?_
        exact h2 _ (Rel_ans hR (by decide))
      · -- a way behind the call
        rw [hcv] at hz9
        exact absurd hb6 hz9
    · -- a way behind the call
      refine And.intro (fun cz4 => ?_) (fun cz4 => False.elim (absurd cz4 (by decide)))
      refine And.intro (Wdo_0 hW) (Exists.intro _ (And.intro (Wdr_0_11 hW) ?_))
      refine And.intro (Wdo_0 hW) (Exists.intro _ (And.intro ha ?_))
      refine And.intro ⟨by omega, Nat.le_of_ble_eq_true rfl, Nat.le_refl _, Nat.le_refl _⟩ (And.intro (Wdo_141 hW) ?_)
      have hpp := (bput_self (m := m) (x := 141) (n := 1)).symm
      generalize (fun f => mI m (141 + f)) = DD at hpp
      rw [hpp]
      refine D89 (n := n4r) (nt := n2r) (ns := ns) (w := w) (h := u) (by omega) hW hL (by omega) hn2 (by omega) hn4 (by omega) ha0 ha1 hwu hns (by omega) hseA ?_
      clear hpp
      have p141 : mI (bput m 141 1 (stQ (mI m (a + 7)) n4r (ftQ (mI m (a + 14)) (mI m (a + 7)) ns n4r) (grF (mI m (a + 2)) (w * u)) (skZ DD) n2r)) 141 = (stQ (mI m (a + 7)) n4r (ftQ (mI m (a + 14)) (mI m (a + 7)) ns n4r) (grF (mI m (a + 2)) (w * u)) (skZ DD) n2r) 0 := bput_0 (x := 141) (by decide)
      have po : ∀ r, r ≠ 141 → mI (bput m 141 1 (stQ (mI m (a + 7)) n4r (ftQ (mI m (a + 14)) (mI m (a + 7)) ns n4r) (grF (mI m (a + 2)) (w * u)) (skZ DD) n2r)) r = mI m r := fun r hr => by
        rcases Nat.lt_or_ge r 141 with z9 | z9
        · exact bput_lo (by omega)
        · exact bput_hi (by omega)
      have a22 : (bput m 141 1 (stQ (mI m (a + 7)) n4r (ftQ (mI m (a + 14)) (mI m (a + 7)) ns n4r) (grF (mI m (a + 2)) (w * u)) (skZ DD) n2r)).2.2 = m.2.2 := bput_22
      generalize hST : stQ (mI m (a + 7)) n4r (ftQ (mI m (a + 14)) (mI m (a + 7)) ns n4r) (grF (mI m (a + 2)) (w * u)) (skZ DD) n2r = SS at p141 po a22 ⊢
      generalize bput m 141 1 SS = m9 at p141 po a22 ⊢
      have hW0 := hW
      have hW : Wd m9.2.2 := by rw [a22]; exact hW0
      have hq6 : mI m9 q 6 = nI n4r := by rw [po q (by omega)]; exact hq6
      have hq5 : mI m9 q 5 = nI n2r := by rw [po q (by omega)]; exact hq5
      have hq14 : mI m9 q 14 = nI ns := by rw [po q (by omega)]; exact hq14
      have hseQ : ∀ i, i < ns → iR (mI m9 (q + 22) i) 6 ∧ iR (mI m9 (q + 23) i) 5 := fun i hi => by rw [po (q + 22) (by omega), po (q + 23) (by omega)]; exact hseQ i hi
      have hq : va_rf (mR m9 142 3) = .ref q := by rw [show mR m9 = mR m from congrArg (fun w : WR => w.1) a22]; exact hq
      have hN : NW m9.2.2 q := by rw [a22]; exact hN
      refine And.intro (Wdo_0 hW) (Exists.intro _ (And.intro (Wdr_0_11 hW) ?_))
      refine And.intro (Wdo_141 hW) ?_
      refine And.intro ⟨by omega, Nat.le_of_ble_eq_true rfl, Nat.le_refl _, Nat.le_refl _⟩ (And.intro (Wdo_0 hW) ?_)
      refine C177 hW ?_
      refine And.intro ⟨rfl, trivial, Nat.le_refl _, Nat.le_refl _⟩ ?_
      refine h _ _ hW (fun Q2 h2 => ?_)
      refine ent (n := 58) z321 (by decide) rfl (by decide) (Nat.le_of_ble_eq_true rfl) (fun sc2 => ?_)
      refine And.intro (Wdo_142 hW) ?_
      refine And.intro ⟨by omega, Nat.le_of_ble_eq_true rfl, Nat.le_refl _, Nat.le_refl _⟩ (And.intro (Wdo_142 hW) ?_)
      have hcv : rfQ (mI (uI (uI m9 0 0 (nI 0)) 142 0 (nI 0)) (q + 7)) (mI (uI (uI m9 0 0 (nI 0)) 142 0 (nI 0)) (q + 22)) (mI (uI (uI m9 0 0 (nI 0)) 142 0 (nI 0)) (q + 23)) (mI (uI (uI m9 0 0 (nI 0)) 142 0 (nI 0)) (q + 24)) (mI (uI (uI m9 0 0 (nI 0)) 142 0 (nI 0)) (q + 25)) n4r ns = ftQ (mI m (a + 14)) (mI m (a + 7)) ns n4r := by
        rw [uI_ne (b := q + 7) (by omega), uI_ne (b := q + 7) (by omega), po (q + 7) (by omega), uI_ne (b := q + 22) (by omega), uI_ne (b := q + 22) (by omega), po (q + 22) (by omega), uI_ne (b := q + 23) (by omega), uI_ne (b := q + 23) (by omega), po (q + 23) (by omega), uI_ne (b := q + 24) (by omega), uI_ne (b := q + 24) (by omega), po (q + 24) (by omega), uI_ne (b := q + 25) (by omega), uI_ne (b := q + 25) (by omega), po (q + 25) (by omega)]
        exact fit_e (off := mI m (q + 7)) (off2 := mI m (a + 7)) (th := mI m (q + 22)) (so := mI m (q + 23)) (ho := mI m (q + 24)) (ye := mI m (q + 25)) (sn := mI m (a + 14)) (by omega) hLQ.2.2.2.2.2.1 hq12 (fun i hi => ⟨(hseA i hi).1, (hseA i hi).2, (hv6 i hi).2.2.2⟩)
      refine C319 (m := (uI (uI m9 0 0 (nI 0)) 142 0 (nI 0))) (ns := ns) (by omega) hW hN h158 hq (show mI (uI (uI m9 0 0 (nI 0)) 142 0 (nI 0)) q 6 = nI n4r by rw [uI_ne (by omega), uI_ne (by omega)]; exact hq6) (by omega) (show mI (uI (uI m9 0 0 (nI 0)) 142 0 (nI 0)) q 5 = nI n2r by rw [uI_ne (by omega), uI_ne (by omega)]; exact hq5) (by omega) (show mI (uI (uI m9 0 0 (nI 0)) 142 0 (nI 0)) q 14 = nI ns by rw [uI_ne (by omega), uI_ne (by omega)]; exact hq14) (by omega) (fun i hi => by rw [uI_ne (b := q + 22) (by omega), uI_ne (b := q + 22) (by omega), uI_ne (b := q + 23) (by omega), uI_ne (b := q + 23) (by omega)]; exact hseQ i hi) (fun hz9 => ?_) (fun hz9 => ?_)
      · -- a way behind the call
        rw [hcv] at hz9
        exact absurd hz9 hb6
      · -- a way behind the call
        refine And.intro (fun cr7 => ?_) (fun cr7 => False.elim (absurd cr7 (by decide)))
        refine And.intro ⟨by omega, Nat.le_of_ble_eq_true rfl, Nat.le_refl _, Nat.le_refl _⟩ (And.intro (Wdo_142 hW) ?_)
        refine C318 (m := (uI (uI m9 0 0 (nI 0)) 142 0 (nI 0))) (ns := ns) (D := DD) (by omega) hW hN h158 hq (show mI (uI (uI m9 0 0 (nI 0)) 142 0 (nI 0)) q 6 = nI n4r by rw [uI_ne (by omega), uI_ne (by omega)]; exact hq6) (by omega) (show mI (uI (uI m9 0 0 (nI 0)) 142 0 (nI 0)) q 5 = nI n2r by rw [uI_ne (by omega), uI_ne (by omega)]; exact hq5) (by omega) (show mI (uI (uI m9 0 0 (nI 0)) 142 0 (nI 0)) q 14 = nI ns by rw [uI_ne (by omega), uI_ne (by omega)]; exact hq14) (by omega) (fun i hi => by rw [uI_ne (b := q + 22) (by omega), uI_ne (b := q + 22) (by omega), uI_ne (b := q + 23) (by omega), uI_ne (b := q + 23) (by omega)]; exact hseQ i hi) (fun A9 M9 has => ?_)
        rw [hcv, uI_ne (b := q + 7) (by omega), uI_ne (b := q + 7) (by omega), po (q + 7) (by omega), uI_ne (b := q) (by omega), uI_ne (b := q) (by omega), po q (by omega), hgr, st_c (f := mI m (q + 7)) (g := mI m (a + 7)) hLQ.2.2.2.2.2.1 (by omega) (by omega), hST] at has
        refine And.intro (Wdo_142 hW) ?_
        refine And.intro ⟨by omega, Nat.le_of_ble_eq_true rfl, Nat.le_refl _, Nat.le_refl _⟩ (And.intro (Wdo_142 hW) ?_)
        refine C202 (m := (asM (uI (uI m9 0 0 (nI 0)) 142 0 (nI 0)) A9 M9)) hW ?_
        refine And.intro ⟨rfl, trivial, Nat.le_refl _, Nat.le_refl _⟩ ?_
        have hv9 : mI (asM (uI (uI m9 0 0 (nI 0)) 142 0 (nI 0)) A9 M9) 142 34 = mI m9 141 1 := by
          rw [as_34, p141]
          exact has.1.symm
        rw [hv9]
        have m0 : ∀ r, r ≠ 0 → r ≠ 142 → mI (uI (uI (asM (uI (uI m9 0 0 (nI 0)) 142 0 (nI 0)) A9 M9) 142 1 (nI 0)) 142 2 (-nI 1)) r = mI m9 r := fun r h1 h3 => by rw [uI_ne h3, uI_ne h3, as_o h3, uI_ne h3, uI_ne h1]
        have x0 : ∀ x, x ≠ 0 → x ≠ 1 → x ≠ 2 → x ≠ 33 → x ≠ 34 → mI (uI (uI (asM (uI (uI m9 0 0 (nI 0)) 142 0 (nI 0)) A9 M9) 142 1 (nI 0)) 142 2 (-nI 1)) 142 x = mI m 142 x := fun x g0 g1 g2 g3 g4 => by rw [uI_eq, upd_o g2, uI_eq, upd_o g1, as_x g3 g4, uI_eq, upd_o g0, uI_ne (by decide), po 142 (by decide)]
        have y0 : ∀ x, x ≠ 0 → mI (uI (uI (asM (uI (uI m9 0 0 (nI 0)) 142 0 (nI 0)) A9 M9) 142 1 (nI 0)) 142 2 (-nI 1)) 0 x = mI m 0 x := fun x g0 => by rw [uI_ne (by decide), uI_ne (by decide), as_o (by decide), uI_ne (by decide), uI_eq, upd_o g0, po 0 (by decide)]
        exact h2 _ (Rel_fin (x := nI 0) hR (by rw [uI_22, uI_22, as_22, uI_22, uI_22]; exact a22) (fun r g1 g2 g3 => (m0 r g2 g3).trans (po r (fun e => g1 (by unfold scr; omega)))) (fun _ => (m0 140 (by decide) (by decide)).trans (po 140 (by decide))) (by rw [uI_ne (by decide), uI_ne (by decide), as_o (by decide), uI_ne (by decide), uI_eq, upd_e]) (y0 1 (by decide)) (y0 12 (by decide)) (by rw [uI_eq, upd_o (by decide), uI_eq, upd_e]) (by rw [uI_eq, upd_e]) (x0 14 (by decide) (by decide) (by decide) (by decide) (by decide)) (x0 6 (by decide) (by decide) (by decide) (by decide) (by decide)) (x0 21 (by decide) (by decide) (by decide) (by decide) (by decide)) (x0 22 (by decide) (by decide) (by decide) (by decide) (by decide)) (by decide))
