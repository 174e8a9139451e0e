theorem pp_22 {m : Mm} {x n y l : Nat} {D E : Nat → Nat → Int32} {K L : Nat → Nat → Int64} : (pp m x n D K y l E L).2.2 = m.2.2 := rfl
theorem pp_R2 {m : Mm} {x n y l : Nat} {D E : Nat → Nat → Int32} {K L : Nat → Nat → Int64} : mR (pp m x n D K y l E L) = mR m := rfl
theorem pp_S2 {m : Mm} {x n y l : Nat} {D E : Nat → Nat → Int32} {K L : Nat → Nat → Int64} : mS (pp m x n D K y l E L) = mS m := rfl
theorem pp_Z2 {m : Mm} {x n y l : Nat} {D E : Nat → Nat → Int32} {K L : Nat → Nat → Int64} : mZ (pp m x n D K y l E L) = mZ m := rfl
/-- what the reference's land leaves as it was -/
def LaB (mo m : Mm) (q : Nat) : Prop := Wd m.2.2 ∧ (∀ a, a < q → a ≠ 142 → a ≠ 144 → a ≠ 145 → mI m a = mI mo a) ∧ (∀ a, a < q → a < 142 ∨ 144 < a → mJ m a = mJ mo a) ∧ (∀ a, a < q → a ≠ 142 → mR m a = mR mo a) ∧ (∀ a, a < q → mS m a = mS mo a) ∧ mZ m = q + 29 ∧ mI m 142 0 = nI 0 ∧ mI m 142 6 = nI 0
def LaF (mo m : Mm) (q f p : Nat) : Prop := LaB mo m q ∧ mI m 145 = mI mo 145 ∧ mR m 142 3 = mR mo 142 3 ∧ mI m 142 1 = nI 4 ∧ mI m 142 2 = nI p ∧ mI m 142 14 = nI f ∧ ∀ r, 15 < r → mI m 142 r = mI mo 142 r
def LaO (mo m : Mm) (q : Nat) (Λ : Nat → Nat → Int32) : Prop := LaB mo m q ∧ mR m 142 3 = some q ∧ NW m.2.2 q ∧ LQ Λ (fun f => mI m (q + f)) ∧ mI m 142 1 = nI 0 ∧ mI m 142 2 = -nI 1 ∧ mI m 142 14 = nI 0 ∧ mI m 142 21 = nI 0 ∧ mI m 142 22 = nI 0 ∧ mI m 145 0 = nI 0 ∧ (∀ x, x < 6 → mI m 145 (1 + x) = Λ 16 x) ∧ (∀ x, x < 36 → mI m 145 (7 + x) = Λ 17 x) ∧ (∀ x, x < 4 → mI m 145 (43 + x) = Λ 18 x) ∧ mI m 145 47 = nI 0
theorem lmW {m : Mm} {z : Nat} {x : Int32} (hW : Wd m.2.2) (hz : mZ m = z) : Wd (nLd (lm2 m z x) z).2.2 := by
  have h158 : 158 ≤ z := by have := hW.1; rw [← hz]; exact this
  have h2 := lm2_Z (x := x) hz
  exact Wd_same hW (by rw [nL_Z h2]; omega) (fun a ha => (nL_S h2 (by omega)).trans (lm2_Sl hz (by omega))) (fun p hp => congrFun ((nL_R h2 (by have := (rfT_n p hp).1; omega)).trans (lm2_R hz (by have := (rfT_n p hp).1; omega))) _)
theorem lm1_Z {m : Mm} {z : Nat} {x : Int32} (hz : mZ m = z) : mZ (lm1 m x) = z := by unfold lm1; rw [uI_Z2, uI_Z2, uI_Z2, uI_Z2, uI_Z2, hz]
/-- a memory with the two blocks of the reference's reading -/
theorem laB_pp {mo m : Mm} {q : Nat} {D E : Nat → Nat → Int32} {K L : Nat → Nat → Int64} (h158 : 158 ≤ q) (fW : Wd m.2.2) (fI : ∀ a, a < q → a ≠ 142 → mI m a = mI mo a) (fJ : ∀ a, a < q → mJ m a = mJ mo a) (fR : ∀ a, a < q → a ≠ 142 → mR m a = mR mo a) (fS : ∀ a, a < q → mS m a = mS mo a) (fZ : mZ m = q + 29) (h0 : D 0 0 = nI 0) (h6 : D 0 6 = nI 0) (hD1 : D 1 = mI mo 143) : LaB mo (pp m 142 3 D K q 29 E L) q := by
  refine ⟨by rw [pp_22]; exact fW, fun a ha h1 h2 h3 => ?_, fun a ha h1 => ?_, fun a ha h1 => ?_, fun a ha => ?_, ?_, ?_, ?_⟩
  · by_cases e : a = 143
    · rw [e, pp_1 (x := 142) (f := 1) (by decide), hD1]
    · rw [pp_o (by omega) (by omega), fI a ha h1]
  · rw [pp_Jo (by omega) (by omega), fJ a ha]
  · rw [pp_R2, fR a ha h1]
  · rw [pp_S2, fS a ha]
  · rw [pp_Z2, fZ]
  · rw [pp_10 (by decide), h0]
  · rw [pp_10 (by decide), h6]
def laE (m : Mm) (q : Nat) : Mm := (uI (uI (uI (uI (rI m 145 (cpF (cpF (cpF (fiF (mI m 145) (nI 0) 48) (mI m (q + 3)) 1 6) (mI m (q + 8)) 7 36) (mI m (q + 19)) 43 4)) 142 21 (nI 0)) 142 22 (nI 0)) 142 1 (nI 0)) 142 2 (-nI 1))
theorem laE_o {m : Mm} {q a : Nat} (h1 : a ≠ 142) (h2 : a ≠ 145) : mI (laE m q) a = mI m a := by
  unfold laE
  rw [uI_ne h1, uI_ne h1, uI_ne h1, uI_ne h1, rI_ne h2]
theorem laE_142 {m : Mm} {q : Nat} : mI (laE m q) 142 = upd (upd (upd (upd (mI m 142) 21 (nI 0)) 22 (nI 0)) 1 (nI 0)) 2 (-nI 1) := by
  unfold laE
  rw [uI_eq, uI_eq, uI_eq, uI_eq, rI_ne (by decide)]
theorem laE_145 {m : Mm} {q : Nat} : mI (laE m q) 145 = (cpF (cpF (cpF (fiF (mI m 145) (nI 0) 48) (mI m (q + 3)) 1 6) (mI m (q + 8)) 7 36) (mI m (q + 19)) 43 4) := by
  unfold laE
  rw [uI_ne (by decide), uI_ne (by decide), uI_ne (by decide), uI_ne (by decide), rI_eq]
theorem laE_J {m : Mm} {q : Nat} : mJ (laE m q) = mJ m := by
  unfold laE
  rw [uI_J, uI_J, uI_J, uI_J, rI_J]
theorem laE_22 {m : Mm} {q : Nat} : (laE m q).2.2 = m.2.2 := by
  unfold laE
  rw [uI_22, uI_22, uI_22, uI_22, rI_22]
theorem laO_e {mo m : Mm} {q : Nat} {Λ : Nat → Nat → Int32} (h158 : 158 ≤ q) (hB : LaB mo m q) (hr : mR m 142 3 = some q) (hN : NW m.2.2 q) (hL : LQ Λ (fun f => mI m (q + f))) (h14 : mI m 142 14 = nI 0) : LaO mo (laE m q) q Λ := by
  obtain ⟨b1, b2, b3, b4, b5, b6, b7, b8⟩ := hB
  have ez22 := laE_22 (m := m) (q := q)
  have eR : mR (laE m q) = mR m := congrArg (fun w : WR => w.1) ez22
  have eS : mS (laE m q) = mS m := congrArg (fun w : WR => w.2.1) ez22
  have eZ : mZ (laE m q) = mZ m := congrArg (fun w : WR => w.2.2) ez22
  have ez142 := laE_142 (m := m) (q := q)
  have ez145 := laE_145 (m := m) (q := q)
  have eq : (fun f => mI (laE m q) (q + f)) = fun f => mI m (q + f) := funext fun f => laE_o (by omega) (by omega)
  refine ⟨⟨by rw [ez22]; exact b1, fun a ha h1 h2 h3 => (laE_o h1 h3).trans (b2 a ha h1 h2 h3), fun a ha h1 => ?_, fun a ha h1 => ?_, fun a ha => ?_, ?_, ?_, ?_⟩, ?_, by rw [ez22]; exact hN, by rw [eq]; exact hL, ?_, ?_, ?_, ?_, ?_, ?_, fun x hx => ?_, fun x hx => ?_, fun x hx => ?_, ?_⟩
  · rw [laE_J]; exact b3 a ha h1
  · rw [eR]; exact b4 a ha h1
  · rw [eS]; exact b5 a ha
  · rw [eZ]; exact b6
  · rw [ez142]; exact b7
  · rw [ez142]; exact b8
  · rw [eR]; exact hr
  · rw [ez142]; rfl
  · rw [ez142]; rfl
  · rw [ez142]; exact h14
  · rw [ez142]; rfl
  · rw [ez142]; rfl
  · rw [ez145, cpF_o (by omega), cpF_o (by omega), cpF_o (by omega)]; exact if_pos (by decide)
  · rw [ez145, cpF_o (by omega), cpF_o (by omega), cpF_i hx]; exact hL.2.2.2.2.1 x hx
  · rw [ez145, cpF_o (by omega), cpF_i hx]; exact hL.2.2.2.2.2.2.1 x hx
  · rw [ez145, cpF_i hx]; exact hL.2.2.2.2.2.2.2.2.2.2.1.2 x hx
  · rw [ez145, cpF_o (by omega), cpF_o (by omega), cpF_o (by omega)]; exact if_pos (by decide)
theorem laB_uR {mo m : Mm} {q r i : Nat} {x : Option Nat} (h : LaB mo m q) (hr : r = 142 ∧ (i = 3 ∨ i = 4) ∨ r = 0 ∧ i = 3 ∨ r = 87 ∧ i = 4) (hr2 : r = 142 := by rfl) : LaB mo (uR m r i x) q := by
  obtain ⟨b1, b2, b3, b4, b5, b6, b7, b8⟩ := h
  exact ⟨Wd_uR b1 hr, b2, b3, fun a ha h1 => (uR_ne (fun z => h1 (z.trans hr2))).trans (b4 a ha h1), b5, b6, b7, b8⟩
theorem LQ_29 {Λ E F : Nat → Nat → Int32} (he : ∀ f, f < 29 → F f = E f) (h : LQ Λ E) : LQ Λ F := by
  unfold LQ Q0 Q1 Q2 Q3 Q4 Q5 Q6 Q7 Q8 Q9 Q10 Q11 Q12 at *
  rw [he 0 (by decide), he 1 (by decide), he 2 (by decide), he 3 (by decide), he 4 (by decide), he 5 (by decide), he 6 (by decide), he 7 (by decide), he 8 (by decide), he 9 (by decide), he 10 (by decide), he 11 (by decide), he 12 (by decide), he 13 (by decide), he 14 (by decide), he 15 (by decide), he 16 (by decide), he 17 (by decide), he 18 (by decide), he 19 (by decide), he 20 (by decide), he 21 (by decide), he 22 (by decide), he 23 (by decide), he 24 (by decide), he 25 (by decide)]
  exact h
theorem L244 {d : Nat} {mo : Mm} {Q : Option Value → Mm → Prop} {q t : Nat} {x : Int32} {B : Nat → Int32} {cs : Nat → Int64} {ss ns : Nat → Int32} {Λ : Nat → Nat → Int32} (hd : 16 ≤ d) (hW : Wd mo.2.2) (hz : mZ mo = q) (hz9 : q + 30 < 999999) (ht : mI mo 142 6 = nI t) (ht12 : t ≤ 1200) (hB : ∀ j, j < t → mI mo 143 j = B j ∧ bt (B j)) (hBad : x < 0 ∨ nI t < x → Q (some (.int (-nI 1))) (uI (uI (uI mo 142 0 (nI 0)) 142 1 (nI 2)) 142 2 (-nI 1))) (hF : ∀ n f p m, x = nI n → n ≤ t → rdF B n (n + 1) ((0, cs, ss, ns) : NT) (cleF Λ) 0 = .inl (f, p) → LaF mo m q f p → Q (some (.int (-nI 1))) m) (hO : ∀ n Λ2 m, x = nI n → n ≤ t → rdF B n (n + 1) ((0, cs, ss, ns) : NT) (cleF Λ) 0 = .inr Λ2 → LaO mo m q Λ2 → Q (some (.int (mI m q 6))) m) : Cc d 29 533 244 [.ref 142, .int x] mo Q := by
  have h158 : 158 ≤ q := by have := hW.1; rw [← hz]; exact this
  refine ent (n := 282) z244 (by decide) rfl (by decide) (Nat.le_of_ble_eq_true rfl) (fun sc => ?_)
  refine And.intro (Wdo_142 hW) ?_
  refine And.intro (fun cz4 => ?_) (fun cz4 => ?_)
  · -- 4 taken: x < 0
    refine And.intro ⟨by omega, Nat.le_of_ble_eq_true rfl, Nat.le_of_ble_eq_true rfl, Nat.le_of_ble_eq_true rfl⟩ (And.intro (Wdo_142 hW) ?_)
    refine C200 (m := (uI mo 142 0 (nI 0))) hW ?_
    refine And.intro ⟨rfl, trivial, Nat.le_of_ble_eq_true rfl, Nat.le_of_ble_eq_true rfl⟩ ?_
    exact hBad (Or.inl cz4)
  · -- 4 not: ¬ x < 0
    refine And.intro (Wdo_142 hW) ?_
    rw [(show mI (uI mo 142 0 (nI 0)) 142 6 = nI t from (congrFun uI_eq 6).trans ht)]
    refine And.intro (fun cz8 => ?_) (fun cz8 => ?_)
    · -- 8 taken: x ≤ nI t
      obtain ⟨⟨n, hn, ex⟩, -⟩ := iR_of (a := 0) (b := t) (by decide) (by omega) (Int32.not_lt.mp cz4) cz8
      refine And.intro (Wdo_142 hW) ?_
      refine And.intro (Wdo_142 hW) ?_
      refine And.intro (Wdo_142 hW) ?_
      refine And.intro (Wdo_142 hW) ?_
      refine And.intro ⟨by decide, by decide, by show mZ mo < 999999; omega⟩ ?_
      show zw sc d 29 533 (mth 244).2.2.2.2.1 P244 (KJ sc d 29 533 (mth 244) P244 Q) Q 260 27 [some (.ref 142), some (.int x), none] [.ref (mZ (lm1 mo x)), .ref 142] (nA (lm1 mo x) 10 45) 1 45
      rw [lm1_Z hz]
      show zw sc d 29 533 (mth 244).2.2.2.2.1 P244 (KJ sc d 29 533 (mth 244) P244 Q) Q 260 27 [some (.ref 142), some (.int x), none] [.ref q, .ref 142] (lm2 mo q x) 1 45
      refine And.intro rfl ?_
      refine And.intro ⟨by omega, Nat.le_of_ble_eq_true rfl, Nat.le_of_ble_eq_true rfl, Nat.le_of_ble_eq_true rfl⟩ (And.intro trivial ?_)
      refine C195 (by omega) (lm2_Z hz) (lm2_S hz) (by omega) ?_
      have hWn := lmW (x := x) hW hz
      refine And.intro (Wdo_142 hWn) ?_
      have hWr : Wd (uR (nLd (lm2 mo q x) q) 142 4 (some q)).2.2 := Wd_uR hWn (Or.inl ⟨rfl, Or.inr rfl⟩)
      refine And.intro (Wdo_142 hWr) ?_
      show zw sc d 29 533 (mth 244).2.2.2.2.1 P244 (KJ sc d 29 533 (mth 244) P244 Q) Q 254 33 [some (.ref 142), some (.int x), none] [] (lm3 mo q x) 29 533
      obtain ⟨fW, fN, f4, fI, f142, fJ, fR, fR142, fS, fZ⟩ := lm3_f (x := x) hW hz
      have fE := lm3_Q (x := x) hW hz
      generalize lm3 mo q x = m at fW fN f4 fI f142 fJ fR fR142 fS fZ fE ⊢
      have hpp := (pp_self (m := m) (x := 142) (n := 3) (y := q) (l := 29)).symm
      generalize hDe : (fun f => mI m (142 + f)) = D at hpp
      generalize (fun f => mJ m (142 + f)) = K at hpp
      generalize (fun f => mI m (q + f)) = E at hpp fE
      generalize (fun f => mJ m (q + f)) = L at hpp
      rw [hpp]
      have hD0 : D 0 = upd (lmF (mI mo 142) x) 9 (nI 0) := by rw [← f142, ← hDe]
      have hD1 : D 1 = mI mo 143 := by rw [← fI 143 (by omega) (by decide), ← hDe]
      have hRB : RBy B n D := ⟨by rw [hD0]; exact ex, by omega, fun j hj => by rw [hD1]; exact hB j (by omega)⟩
      have h14 : D 0 14 = nI 0 := by rw [hD0]; rfl
      have hdq : q + 29 ≤ 142 ∨ 142 + 3 ≤ q := by omega
      refine And.intro ⟨by omega, Nat.le_of_ble_eq_true rfl, Nat.le_of_ble_eq_true rfl, Nat.le_of_ble_eq_true rfl⟩ (And.intro (Wdo_142 fW) ?_)
      refine D211 (B := B) (n := n) (i := 0) fW fN hdq (by omega) hRB (Nat.zero_le _) (fun D1 K1 hT1 hx1 => ?_) (by rw [hD0]; rfl) (by rw [hD0]; show ¬ nI 0 = nI 5; decide)
      refine And.intro ⟨by omega, Nat.le_of_ble_eq_true rfl, Nat.le_of_ble_eq_true rfl, Nat.le_of_ble_eq_true rfl⟩ (And.intro (Wdo_142 fW) ?_)
      refine L228 (i := 0) (r := n + 1) (T := ((0, cs, ss, ns) : NT)) (Λ := cleF Λ) fW fN hdq f4 (by omega) (RX_l hRB hx1 hT1 (Nat.zero_le _) h14) (LQ_0 fE) (NR_0 fE) LRI_0 LKp_0 (Nat.le_refl _) (fun D2 K2 E2 L2 hy2 hp2 => ?_)
      have hy3 := FY_t (FY_x hx1) hy2
      rcases er : rdF B n (n + 1) ((0, cs, ss, ns) : NT) (cleF Λ) 0 with ⟨f, p⟩ | Λ2
      · -- a way behind the call
        rw [er] at hp2
        change RX B n (.inl (f, p)) D2 K2 at hp2
        have hfp := fp_R _ _ er
        change 1 ≤ f ∧ f ≤ 7 at hfp
        refine And.intro (Wdo_142 fW) ?_
        rw [pp_10 (x := 142) (by decide)]
        rw [hp2.2.2.1]
        refine And.intro (fun cz39 => ?_) (fun cz39 => ?_)
        · -- 39 taken: nI f ≤ 0
          have kz39 : f ≤ 0 := kle (a := f) (b := 0) rfl rfl (by omega) (by omega) cz39
          omega
        · -- 39 not: ¬ nI f ≤ 0
          have kz39 : 0 < f := knle (a := f) (b := 0) rfl rfl (by omega) (by omega) cz39
          refine And.intro (Wdo_142 fW) ?_
          rw [pp_u10 (x := 142) (by decide)]
          refine And.intro (Wdo_142 fW) ?_
          rw [pp_10 (x := 142) (by decide)]
          rw [show (ud D2 0 1 (nI 4)) 0 15 = D2 0 15 from rfl]
          rw [hp2.2.2.2]
          refine And.intro (Wdo_142 fW) ?_
          rw [pp_u10 (x := 142) (by decide)]
          refine And.intro ⟨rfl, trivial, Nat.le_of_ble_eq_true rfl, Nat.le_of_ble_eq_true rfl⟩ ?_
          refine hF n f p _ ex (by omega) er ⟨laB_pp h158 fW fI fJ fR fS fZ (show D2 0 0 = nI 0 by rw [hy3.2 0 (by omega), hD0]; rfl) (show D2 0 6 = nI 0 by rw [hy3.2 6 (by omega), hD0]; rfl) (hy3.1.trans hD1), ?_, ?_, ?_, ?_, ?_, fun r hr => ?_⟩
          · rw [pp_o (by omega) (by omega), fI 145 (by omega) (by decide)]
          · rw [pp_R2, fR142, up_ne (by decide)]
          · rw [pp_10 (by decide)]; rfl
          · rw [pp_10 (by decide)]; rfl
          · rw [pp_10 (by decide)]; exact hp2.2.2.1
          · rw [pp_10 (by decide), ud_eq, upd_o (by omega), ud_eq, upd_o (by omega), hy3.2 r (by omega), hD0, upd_o (by omega)]
            unfold lmF
            rw [upd_o (by omega), upd_o (by omega), upd_o (by omega), upd_o (by omega), upd_o (by omega)]
      · -- a way behind the call
        rw [er] at hp2
        obtain ⟨⟨j2, hX2⟩, hLQ2, T2, hI2⟩ := hp2
        refine And.intro (Wdo_142 fW) ?_
        rw [pp_10 (x := 142) (by decide)]
        rw [hX2.2.2.2]
        refine And.intro (fun cz39 => ?_) (fun cz39 => False.elim (absurd cz39 (by decide)))
        refine And.intro (Wdo_142 fW) (Exists.intro _ (And.intro f4 ?_))
        refine And.intro (Wdo_142 fW) ?_
        show Jj sc d 29 533 (mth 244) (pg P244 55).1 [some (.ref 142), some (.int x), some (.int (nI 0))] [] (uR (pp m 142 3 D2 K2 q 29 E2 L2) 142 3 (some q)) 29 533 Q
        have g0 := laB_pp (mo := mo) (D := D2) (K := K2) (E := E2) (L := L2) h158 fW fI fJ fR fS fZ (show D2 0 0 = nI 0 by rw [hy3.2 0 (by omega), hD0]; rfl) (show D2 0 6 = nI 0 by rw [hy3.2 6 (by omega), hD0]; rfl) (hy3.1.trans hD1)
        have g1 := laB_uR (x := some q) g0 (r := 142) (i := 3) (Or.inl ⟨rfl, Or.inl rfl⟩)
        have g2 : NW (uR (pp m 142 3 D2 K2 q 29 E2 L2) 142 3 (some q)).2.2 q := NW_uR (show NW (pp m 142 3 D2 K2 q 29 E2 L2).2.2 q by rw [pp_22]; exact fN) (by omega)
        have g3 : mR (uR (pp m 142 3 D2 K2 q 29 E2 L2) 142 3 (some q)) 142 3 = some q := by rw [uR_eq, up_eq]
        have g4 : LQ Λ2 (fun f => mI (uR (pp m 142 3 D2 K2 q 29 E2 L2) 142 3 (some q)) (q + f)) := by
          refine LQ_29 (E := E2) (fun f hf => ?_) hLQ2
          show mI (uR (pp m 142 3 D2 K2 q 29 E2 L2) 142 3 (some q)) (q + f) = E2 f
          rw [uR_I, pp_2 hdq hf]
        have g5 : mI (uR (pp m 142 3 D2 K2 q 29 E2 L2) 142 3 (some q)) 142 14 = nI 0 := by rw [uR_I, pp_10 (by decide)]; exact hX2.2.2.2
        have g6 : mI (uR (pp m 142 3 D2 K2 q 29 E2 L2) 142 3 (some q)) q 6 = E2 0 6 := by rw [uR_I, pp_20 hdq (by decide)]
        have hgo := hO n Λ2 _ ex (by omega) er (laO_e h158 g1 g3 g2 g4 g5)
        generalize uR (pp m 142 3 D2 K2 q 29 E2 L2) 142 3 (some q) = m5 at g1 g2 g3 g4 g5 g6 hgo ⊢
        have hgr : mI (laE m5 q) q 6 = mI m5 q 6 := congrFun (laE_o (by omega) (by omega)) 6
        rw [hgr] at hgo
        have w9 := lland_a (sc := sc) (d := d) (m := m5) (Q := Q) (z := q) (x := x) (by omega) g1.1 g2 h158 (by rw [g3]; rfl) hgo 49 0 (by decide) (by decide)
        rw [fiF_0, rI_self] at w9
        exact w9
    · -- 8 not: ¬ x ≤ nI t
      refine And.intro ⟨by omega, Nat.le_of_ble_eq_true rfl, Nat.le_of_ble_eq_true rfl, Nat.le_of_ble_eq_true rfl⟩ (And.intro (Wdo_142 hW) ?_)
      refine C200 (m := (uI mo 142 0 (nI 0))) hW ?_
      refine And.intro ⟨rfl, trivial, Nat.le_of_ble_eq_true rfl, Nat.le_of_ble_eq_true rfl⟩ ?_
      exact hBad (Or.inr (Int32.not_le.mp cz8))
