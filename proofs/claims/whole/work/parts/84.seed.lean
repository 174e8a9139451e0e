/-- the states have changed -/
theorem Rel_gn {z : Nat} {m n : Mm} {a b q : Nat} (hW : Wd m.2.2) (hz : mZ m = z) (hA : RelA m a b) (hX : RelX m a) (hq1 : RelL1 m a q) (h22 : n.2.2 = m.2.2) (hI : ∀ r, ¬ scr r → r ≠ 0 → r ≠ 142 → r ≠ 24 → r ≠ 145 → r ≠ 146 → r ≠ 147 → (r < 20 ∨ 87 ≤ r) → mI n r = mI m r) (h140 : mI m 139 4 = nI 1 → mI n 140 = mI m 140) (hS : RelS (mI n)) (hD : RelD (mI n) a) (g6 : mI n 142 6 = mI m 142 6) (hP : RelP (lam m a) (mI n)) (hV : SV (mI n) 20 (mI n 145)) (hR : SR (lam m a) (mI n) 20) : Rel z n := by
  have eZ : mZ n = mZ m := congrArg (fun w : WR => w.2.2) h22
  have eR : mR n = mR m := congrArg (fun w : WR => w.1) h22
  have ha : a = 1 ∨ a = 93 := hA.1.elim (fun z => Or.inl z.1) (fun z => Or.inr z.1)
  have hi : ∀ r, r ≠ 0 → (r < 20 ∨ (87 ≤ r ∧ r < 124) ∨ r = 139 ∨ r = 143 ∨ 158 ≤ r) → mI n r = mI m r := fun r h0 hr => hI r (by unfold scr; omega) h0 (by omega) (by omega) (by omega) (by omega) (by omega) (by omega)
  have hla : ∀ f, f < 19 → mI n (a + f) = mI m (a + f) := fun f hf => hi _ (by omega) (by omega)
  have el1 : lam n a 1 = lam m a 1 := hla 1 (by decide)
  obtain ⟨hT, -, -, -, -, hE⟩ := hX
  obtain ⟨b1, b2, b3, b4, ⟨T, b5⟩, b6, b7, b8, b9⟩ := hq1
  refine ⟨by rw [h22]; exact hW, eZ.trans hz, hS, a, b, ?_, ?_, hV, Or.inr ⟨q, b1, by rw [eZ]; exact b2, by rw [h22]; exact b3, by rw [eR]; exact b4, ⟨T, LRI_19 (fun f hf => hla f hf) b5⟩, by rw [show mI n (a + 1) = mI m (a + 1) from hla 1 (by decide)]; exact b6, ?_, LQ_19 (fun f hf => hla f hf) (LQ_29 (E := lam m q) (fun f hf => hi _ (by omega) (by omega)) b8), ?_⟩, ?_, hD, ?_⟩
  · unfold RelA at hA ⊢
    rw [eR]
    exact hA
  · unfold RelT at hT ⊢
    rw [hi 88 (by omega) (by omega), hi 143 (by omega) (by omega), hi 89 (by omega) (by omega), g6]
    exact hT
  · show ¬ laP (lam n a)
    unfold laP
    rw [show lam n a 0 = lam m a 0 from hla 0 (by decide), el1]
    exact b7
  · unfold SR at hR ⊢
    rw [el1]
    exact hR
  · unfold RelP SR at hP ⊢
    rw [el1]
    exact hP
  · unfold RelE at hE ⊢
    rw [hi 139 (by omega) (by omega)]
    rcases hE with hE | ⟨cz1, cz2⟩
    · exact Or.inl hE
    · refine Or.inr ⟨cz1, ?_⟩
      rw [hla 12 (by decide), hla 13 (by decide), show mI n a = mI m a from hla 0 (by decide), show mI n (a + 1) = mI m (a + 1) from hla 1 (by decide)]
      exact NI_2 (hi 139 (by omega) (by omega)) (h140 cz1) cz2
theorem RelP_same {Λ P I J : Nat → Nat → Int32} (h1 : P 1 = Λ 1) (hr : ∀ r, 24 ≤ r → r < 87 → J r = I r) (ez6 : J 146 = I 146) (ez7 : J 147 = I 147) (ez21 : J 142 21 = I 142 21) (ez22 : J 142 22 = I 142 22) (h : RelP Λ I) : RelP P J := by
  obtain ⟨f, w, y, cz1, cz2, cz3, cz4, cz5, cz6, cz7, cz8, cz9, cz10⟩ := h
  refine ⟨f, w, y, cz1, cz2, cz3, by rw [hr 24 (by omega) (by omega)]; exact cz4, by rw [hr 24 (by omega) (by omega)]; exact cz5, by rw [hr 24 (by omega) (by omega)]; exact cz6, ez21.trans cz7, ez22.trans cz8, fun i h9 => ?_, fun j h9 => ?_⟩
  · have hb : (f + i) % 12 < 12 := Nat.mod_lt _ (by decide)
    have := cz9 i h9
    generalize (f + i) % 12 = s at this hb ⊢
    unfold SV SR at this ⊢
    rw [ez6, hr (27 + 4 * s) (by omega) (by omega), hr (27 + 4 * s + 1) (by omega) (by omega), hr (27 + 4 * s + 2) (by omega) (by omega), hr (27 + 4 * s + 3) (by omega) (by omega), h1]
    exact this
  · have := cz10 j h9
    unfold SV SR at this ⊢
    rw [ez7, hr (75 + 4 * j) (by omega) (by omega), hr (75 + 4 * j + 1) (by omega) (by omega), hr (75 + 4 * j + 2) (by omega) (by omega), hr (75 + 4 * j + 3) (by omega) (by omega), h1]
    exact this
theorem runF_s {Λ P Ψ R D : Nat → Nat → Int32} {n np g : Nat} {l w : Int32} (h : ∀ f, f < 19 → P f = Λ f) (h0 : R 0 1 = Ψ 0 1) (hg : ∀ f, f < 3 → 0 < f → R f = Ψ f) : runF P R n np l w g D = runF Λ Ψ n np l w g D := by
  have a2 := h 2 (by decide)
  have a3 := h 3 (by decide)
  have a4 := h 4 (by decide)
  have a5 := h 5 (by decide)
  have a6 := h 6 (by decide)
  have a7 := h 7 (by decide)
  have a8 := h 8 (by decide)
  have a9 := h 9 (by decide)
  have b1 := hg 1 (by decide) (by decide)
  have b2 := hg 2 (by decide) (by decide)
  unfold runF hrQ hrS gdQ gdS seQ seS juF graF goF tOf sOf beQ beS beY beG inP
  simp only [a2, a3, a4, a5, a6, a7, a8, a9, h0, b1, b2]
theorem RelD_same {I J : Nat → Nat → Int32} {a : Nat} (h12 : J 0 12 = I 0 12) (hl : ∀ f, f < 19 → J (a + f) = I (a + f)) (h0 : J 20 1 = I 20 1) (h1 : J (20 + 1) = I (20 + 1)) (h2 : J (20 + 2) = I (20 + 2)) (hd : ∀ f, f < 12 → J (112 + f) = I (112 + f)) (h : RelD I a) : RelD J a := by
  rcases h with h | ⟨d1, D, g, d2⟩
  · exact Or.inl (h12.trans h)
  · refine Or.inr ⟨h12.trans d1, D, g, fun f hf => ?_⟩
    rw [hd f hf, d2 f hf, show J a = I a from hl 0 (by decide), hl 1 (by decide)]
    refine congrFun (runF_s (fun f hf => (hl f hf).symm) h0.symm (fun f hf hp => ?_)) f
    have : f = 1 ∨ f = 2 := by omega
    rcases this with rfl | rfl
    · exact h1.symm
    · exact h2.symm
theorem SV_d {I J : Nat → Nat → Int32} {v : Nat → Int32} {s : Int32} (h : SV I 20 v) (ez0 : J 20 = upd (I 20) 0 s) (ez1 : J (20 + 1) = I (20 + 1)) (ez2 : J (20 + 2) = I (20 + 2)) (ez3 : J (20 + 3) = I (20 + 3)) : SV J 20 (upd v 47 s) := by
  obtain ⟨h0, h1, h2, h3, h4⟩ := h
  refine ⟨?_, fun x hx => ?_, fun x hx => ?_, fun x hx => ?_, ?_⟩
  · rw [upd_o (by decide), ez0, upd_o (by decide), h0]
  · rw [upd_o (by omega), ez1, h1 x hx]
  · rw [upd_o (by omega), ez2, h2 x hx]
  · rw [upd_o (by omega), ez3, h3 x hx]
  · rw [upd_e, ez0, upd_e]
theorem SR_d {Λ I J : Nat → Nat → Int32} {s : Int32} (h : SR Λ I 20) (hs : iR s 65537) (ez0 : J 20 = upd (I 20) 0 s) (ez1 : J (20 + 1) = I (20 + 1)) (ez2 : J (20 + 2) = I (20 + 2)) (ez3 : J (20 + 3) = I (20 + 3)) : SR Λ J 20 :=
  ⟨by rw [ez0, upd_e]; exact hs, fun x hx => by rw [ez1]; exact h.2.1 x hx, fun x hx => by rw [ez2]; exact h.2.2.1 x hx, fun x hx => by rw [ez3]; exact h.2.2.2 x hx⟩
theorem sd_w {y : Int32} : (nI 0 ≤ y ∧ y ≤ nI 65536) ↔ (¬ y < 0 ∧ y < nI 65537) := by
  have h0 : (nI 0).toInt = 0 := by decide
  have hz : (0 : Int32).toInt = 0 := by decide
  have h6 : (nI 65536).toInt = 65536 := by decide
  have h7 : (nI 65537).toInt = 65537 := by decide
  rw [Int32.le_iff_toInt_le, Int32.le_iff_toInt_le, Int32.lt_iff_toInt_lt, Int32.lt_iff_toInt_lt]
  omega
theorem P_seed {d : Nat} {m : Mm} {Q : Option Value → Mm → Prop} {z : Nat} {y : Int32} (hd : 16 ≤ d) (hR : Rel z m) (h : ∀ (r : Int32) m1, Wd m1.2.2 → (∀ Q2 : Option Value → Mm → Prop, (∀ m2, Rel z m2 → Q2 (some (.int r)) m2) → Cc d 0 0 328 [.ref 142, .int y] m1 Q2) → Q (some (.int r)) m1) : Cc d 0 0 164 [.ref 0, .int y] m Q := by
  obtain ⟨hW, hz, hS, a, b, hA, hX⟩ := id hR
  obtain ⟨hL, hLb, hab, ha, hb⟩ := RelA_L hW hA
  obtain ⟨n2r, hn2, bn2, ln2⟩ := RL_n (s := 2) (f := 5) hX.2.2.1 (by decide) (fun _ _ h => h.2.2.2.2.2.1)
  change n2r ≤ 6 at bn2
  obtain ⟨n4r, hn4, bn4, ln4⟩ := RL_n (s := 4) (f := 6) hX.2.2.1 (by decide) (fun _ _ h => h.2.2.2.2.2.2.1)
  change n4r ≤ 6 at bn4
  obtain ⟨n8r, hn8, bn8, ln8⟩ := RL_n (s := 8) (f := 10) hX.2.2.1 (by decide) (fun _ _ h => h.2.2.2.2.2.2.2.2.2.2.1)
  change n8r ≤ 8 at bn8
  obtain ⟨n10r, hn10, bn10, ln10⟩ := RL_n (s := 10) (f := 12) hX.2.2.1 (by decide) (fun _ _ h => h.2.2.2.2.2.2.2.2.2.2.2.2.1)
  change n10r ≤ 4 at bn10
  rcases RL_st hX.2.2.1 with ⟨hL0, hst0⟩ | ⟨q, hq1, hst0⟩
  · skip
    refine ent (n := 68) z164 (by decide) rfl (by decide) (Nat.le_of_ble_eq_true rfl) (fun sc => ?_)
    refine And.intro (Wdo_0 hW) (Exists.intro _ (And.intro ha ?_))
    refine And.intro ⟨by omega, Nat.le_of_ble_eq_true rfl, Nat.le_refl _, Nat.le_refl _⟩ (And.intro (LWo_0 hL) ?_)
    refine C21 hL ?_
    refine And.intro (fun cz3 => False.elim (absurd (bi_ne0.mp cz3) (hst0))) (fun cz3 => ?_)
    refine And.intro ⟨by omega, Nat.le_of_ble_eq_true rfl, Nat.le_refl _, Nat.le_refl _⟩ (And.intro (Wdo_0 hW) ?_)
    refine C178 hW ?_
    refine And.intro ⟨rfl, Or.inl rfl, Nat.le_refl _, Nat.le_refl _⟩ ?_
    refine h _ _ hW (fun Q2 h2 => ?_)
    refine ent (n := 74) z328 (by decide) rfl (by decide) (Nat.le_of_ble_eq_true rfl) (fun sc2 => ?_)
    refine And.intro (Wdo_142 hW) ?_
    refine And.intro (Wdo_142 hW) (Exists.intro _ (And.intro (show va_rf (mR m 142 3) = .null by rw [hL0.1]; rfl) ?_))
    refine And.intro ⟨by omega, Nat.le_of_ble_eq_true rfl, Nat.le_refl _, Nat.le_refl _⟩ (And.intro (Wdo_142 hW) ?_)
    refine C201 (m := (uI (uI m 0 0 (nI 1)) 142 0 (nI 0))) (by omega) hW ?_
    refine And.intro ⟨rfl, Or.inl rfl, Nat.le_refl _, Nat.le_refl _⟩ ?_
    exact h2 _ (Rel_ans hR (by decide))
  · skip
    have hqq := hq1
    obtain ⟨hq, w, u, ha0, ha1, hq0, hq1w, hw6, hu4, hwu, hgr⟩ := RL_q hq1
    obtain ⟨h158, hqz, hN, h3, ⟨T, hI⟩, hst, hla, hLQ, hSR⟩ := hq1
    have hq6 : mI m q 6 = nI n4r := hLQ.1.2.2.2.2.2.2.1.trans hn4
    have hq5 : mI m q 5 = nI n2r := hLQ.1.2.2.2.2.2.1.trans hn2
    refine ent (n := 68) z164 (by decide) rfl (by decide) (Nat.le_of_ble_eq_true rfl) (fun sc => ?_)
    refine And.intro (Wdo_0 hW) (Exists.intro _ (And.intro ha ?_))
    refine And.intro ⟨by omega, Nat.le_of_ble_eq_true rfl, Nat.le_refl _, Nat.le_refl _⟩ (And.intro (LWo_0 hL) ?_)
    refine C21 hL ?_
    refine And.intro (fun cz3 => ?_) (fun cz3 => False.elim (absurd (hst0) (bi_eq0.mp cz3)))
    refine And.intro (fun cz9 => ?_) (fun cz9 => ?_)
    · -- 9 taken: y < 0
      refine And.intro ⟨by omega, Nat.le_of_ble_eq_true rfl, Nat.le_refl _, Nat.le_refl _⟩ (And.intro (Wdo_0 hW) ?_)
      refine C178 hW ?_
      refine And.intro ⟨rfl, Or.inl rfl, Nat.le_refl _, Nat.le_refl _⟩ ?_
      refine h _ _ hW (fun Q2 h2 => ?_)
      refine ent (n := 74) z328 (by decide) rfl (by decide) (Nat.le_of_ble_eq_true rfl) (fun sc2 => ?_)
      refine And.intro (Wdo_142 hW) ?_
      refine And.intro (Wdo_142 hW) (Exists.intro _ (And.intro hq ?_))
      refine And.intro ⟨by omega, Nat.le_of_ble_eq_true rfl, Nat.le_refl _, Nat.le_refl _⟩ ?_
      refine C204 (m := (uI (uI m 0 0 (nI 2)) 142 0 (nI 0))) ?_
      refine And.intro (fun cr14 => False.elim (absurd (bi_ne0.mp cr14) (fun z9 => (sd_w.mp z9).1 cz9))) (fun cr14 => ?_)
      refine And.intro ⟨by omega, Nat.le_of_ble_eq_true rfl, Nat.le_refl _, Nat.le_refl _⟩ (And.intro (Wdo_142 hW) ?_)
      refine C201 (m := (uI (uI m 0 0 (nI 2)) 142 0 (nI 0))) (by omega) hW ?_
      refine And.intro ⟨rfl, Or.inl rfl, Nat.le_refl _, Nat.le_refl _⟩ ?_
      exact h2 _ (Rel_ans hR (by decide))
    · -- 9 not: ¬ y < 0
      refine And.intro (fun cz12 => ?_) (fun cz12 => ?_)
      · -- 12 taken: y < nI 65537
        refine And.intro (Wdo_0 hW) (Exists.intro _ (And.intro (Wdr_0_4 hW) ?_))
        refine And.intro (SWo_0 (Wd_S hW)) ?_
        refine And.intro ⟨by omega, Nat.le_of_ble_eq_true rfl, Nat.le_refl _, Nat.le_refl _⟩ (And.intro (Wdo_0 hW) ?_)
        refine C179 (m := (uI m 20 0 y)) hW ?_
        refine And.intro ⟨rfl, Or.inr rfl, Nat.le_refl _, Nat.le_refl _⟩ ?_
        refine h _ _ hW (fun Q2 h2 => ?_)
        refine ent (n := 74) z328 (by decide) rfl (by decide) (Nat.le_of_ble_eq_true rfl) (fun sc2 => ?_)
        refine And.intro (Wdo_142 hW) ?_
        refine And.intro (Wdo_142 hW) (Exists.intro _ (And.intro hq ?_))
        refine And.intro ⟨by omega, Nat.le_of_ble_eq_true rfl, Nat.le_refl _, Nat.le_refl _⟩ ?_
        refine C204 (m := (uI (uI (uI m 20 0 y) 0 0 (nI 0)) 142 0 (nI 0))) ?_
        refine And.intro (fun cr14 => ?_) (fun cr14 => False.elim (absurd (sd_w.mpr ⟨cz9, cz12⟩) (bi_eq0.mp cr14)))
        refine And.intro (Wdo_142 hW) (Exists.intro _ (And.intro (Wdr_142_18 hW) ?_))
        refine And.intro (Wdi_145 hW (vi rfl (by omega))) ?_
        rw [nI_clamp (show 47 < 2 ^ 31 by omega)]
        refine And.intro ⟨by omega, Nat.le_of_ble_eq_true rfl, Nat.le_refl _, Nat.le_refl _⟩ (And.intro (Wdo_142 hW) ?_)
        refine C203 (m := (uI (uI (uI (uI m 20 0 y) 0 0 (nI 0)) 142 0 (nI 0)) 145 47 y)) (by omega) hW ?_
        refine And.intro ⟨rfl, Or.inr rfl, Nat.le_refl _, Nat.le_refl _⟩ ?_
        have er : ∀ r, r ≠ 0 → r ≠ 20 → r ≠ 142 → r ≠ 145 → mI (uI (uI (uI (uI (uI (uI m 20 0 y) 0 0 (nI 0)) 142 0 (nI 0)) 145 47 y) 142 1 (nI 0)) 142 2 (-nI 1)) r = mI m r := fun r h0 h1 h2 h3 => by rw [uI_ne h2, uI_ne h2, uI_ne h3, uI_ne h2, uI_ne h0, uI_ne h1]
        have er20 : mI (uI (uI (uI (uI (uI (uI m 20 0 y) 0 0 (nI 0)) 142 0 (nI 0)) 145 47 y) 142 1 (nI 0)) 142 2 (-nI 1)) 20 = upd (mI m 20) 0 y := by rw [uI_ne (by decide), uI_ne (by decide), uI_ne (by decide), uI_ne (by decide), uI_ne (by decide), uI_eq]
        have er145 : mI (uI (uI (uI (uI (uI (uI m 20 0 y) 0 0 (nI 0)) 142 0 (nI 0)) 145 47 y) 142 1 (nI 0)) 142 2 (-nI 1)) 145 = upd (mI m 145) 47 y := by rw [uI_ne (by decide), uI_ne (by decide), uI_eq, uI_ne (by decide), uI_ne (by decide), uI_ne (by decide)]
        have er0 : ∀ x, x ≠ 0 → mI (uI (uI (uI (uI (uI (uI m 20 0 y) 0 0 (nI 0)) 142 0 (nI 0)) 145 47 y) 142 1 (nI 0)) 142 2 (-nI 1)) 0 x = mI m 0 x := fun x hx => by rw [uI_ne (by decide), uI_ne (by decide), uI_ne (by decide), uI_ne (by decide), uI_eq, upd_o hx, uI_ne (by decide)]
        have er00 : mI (uI (uI (uI (uI (uI (uI m 20 0 y) 0 0 (nI 0)) 142 0 (nI 0)) 145 47 y) 142 1 (nI 0)) 142 2 (-nI 1)) 0 0 = nI 0 := by rw [uI_ne (by decide), uI_ne (by decide), uI_ne (by decide), uI_ne (by decide), uI_eq, upd_e]
        have er142 : ∀ x, x ≠ 0 → x ≠ 1 → x ≠ 2 → mI (uI (uI (uI (uI (uI (uI m 20 0 y) 0 0 (nI 0)) 142 0 (nI 0)) 145 47 y) 142 1 (nI 0)) 142 2 (-nI 1)) 142 x = mI m 142 x := fun x h0 h1 h2 => by rw [uI_eq, upd_o h2, uI_eq, upd_o h1, uI_ne (by decide), uI_eq, upd_o h0, uI_ne (by decide), uI_ne (by decide)]
        have ab : ∀ f, f < 19 → mI (uI (uI (uI (uI (uI (uI m 20 0 y) 0 0 (nI 0)) 142 0 (nI 0)) 145 47 y) 142 1 (nI 0)) 142 2 (-nI 1)) (a + f) = mI m (a + f) := fun f hf => er _ (by omega) (by omega) (by omega) (by omega)
        have hys : iR y 65537 := (irq (by decide)).mpr ⟨cz9, Int32.not_le.mpr cz12⟩
        refine h2 _ (Rel_gn hW hz hA hX hqq (by rw [uI_22, uI_22, uI_22, uI_22, uI_22, uI_22]) (fun r _ h0 h1 _ h2 _ _ h4 => er r h0 (by omega) h1 h2) (fun _ => er 140 (by decide) (by decide) (by decide) (by decide)) ⟨?_, ?_, ?_⟩ (RelD_same (er0 12 (by decide)) ab (by rw [er20, upd_o (by decide)]) (er _ (by decide) (by decide) (by decide) (by decide)) (er _ (by decide) (by decide) (by decide) (by decide)) (fun f hf => er _ (by omega) (by omega) (by omega) (by omega)) hX.2.2.2.2.1) (er142 6 (by decide) (by decide) (by decide)) (RelP_same (show lam m a 1 = lam m a 1 from rfl) (fun r h1 h2 => er r (by omega) (by omega) (by omega) (by omega)) (er 146 (by decide) (by decide) (by decide) (by decide)) (er 147 (by decide) (by decide) (by decide) (by decide)) (er142 21 (by decide) (by decide) (by decide)) (er142 22 (by decide) (by decide) (by decide)) hX.2.2.2.1) ?_ (SR_d hSR hys er20 (er _ (by decide) (by decide) (by decide) (by decide)) (er _ (by decide) (by decide) (by decide) (by decide)) (er _ (by decide) (by decide) (by decide) (by decide))))
        · rw [er00, uI_eq, upd_o (by decide), uI_eq, upd_e]
        · rw [er142 14 (by decide) (by decide) (by decide), er0 1 (by decide)]; exact hS.2.1
        · rw [er00, if_neg (by decide), uI_eq, upd_e]
        · rw [er145]; exact SV_d hX.2.1 er20 (er _ (by decide) (by decide) (by decide) (by decide)) (er _ (by decide) (by decide) (by decide) (by decide)) (er _ (by decide) (by decide) (by decide) (by decide))
      · -- 12 not: ¬ y < nI 65537
        refine And.intro ⟨by omega, Nat.le_of_ble_eq_true rfl, Nat.le_refl _, Nat.le_refl _⟩ (And.intro (Wdo_0 hW) ?_)
        refine C178 hW ?_
        refine And.intro ⟨rfl, Or.inl rfl, Nat.le_refl _, Nat.le_refl _⟩ ?_
        refine h _ _ hW (fun Q2 h2 => ?_)
        refine ent (n := 74) z328 (by decide) rfl (by decide) (Nat.le_of_ble_eq_true rfl) (fun sc2 => ?_)
        refine And.intro (Wdo_142 hW) ?_
        refine And.intro (Wdo_142 hW) (Exists.intro _ (And.intro hq ?_))
        refine And.intro ⟨by omega, Nat.le_of_ble_eq_true rfl, Nat.le_refl _, Nat.le_refl _⟩ ?_
        refine C204 (m := (uI (uI m 0 0 (nI 2)) 142 0 (nI 0))) ?_
        refine And.intro (fun cr14 => False.elim (absurd (bi_ne0.mp cr14) (fun z9 => cz12 (sd_w.mp z9).2))) (fun cr14 => ?_)
        refine And.intro ⟨by omega, Nat.le_of_ble_eq_true rfl, Nat.le_refl _, Nat.le_refl _⟩ (And.intro (Wdo_142 hW) ?_)
        refine C201 (m := (uI (uI m 0 0 (nI 2)) 142 0 (nI 0))) (by omega) hW ?_
        refine And.intro ⟨rfl, Or.inl rfl, Nat.le_refl _, Nat.le_refl _⟩ ?_
        exact h2 _ (Rel_ans hR (by decide))
