theorem D60 {d : Nat} {m : Mm} {Q : Option Value → Mm → Prop} {b : Nat} {E : Nat → Nat → Int32} {L : Nat → Nat → Int64} (hW : Wd m.2.2) (hB2 : LW m.2.2 b) (hdj : b + 19 ≤ 87 ∨ 87 + 6 ≤ b) {D : Nat → Nat → Int32} {K : Nat → Nat → Int64} {B : Nat → Int32} {n i : Nat} {T : NT} {s : Nat} (hd : 11 ≤ d) (hb4 : va_rf (mR m 87 4) = .ref b) (hR : RS B n T.1 i D K) (hTT : T = (T.1, K 3, D 4, D 5)) (hs : s < 13) (hI : LRI T E) (hc : nv (E 1 s) < rmN s) (h1r : s = 1 → nv (E 1 1) < nv (E 0 1)) (hF : ∀ D1 K1 E1 f p, lnF s T E B n i = .inl (f, p) → D1 0 7 = nI f → D1 0 8 = nI p → D1 1 1 = nI 0 → Q (some (.int (nI 0))) (pp m 87 6 D1 K1 b 19 E1 L)) (hO : ∀ (D1 : Nat → Nat → Int32) (K1 : Nat → Nat → Int64) E1 (T1 : NT) j, lnF s T E B n i = .inr (T1, E1, j) → RS B n T1.1 j D1 K1 → T1 = (T1.1, K1 3, D1 4, D1 5) → Q (some (.int (nI 1))) (pp m 87 6 D1 K1 b 19 E1 L))  : Cc d 0 0 60 [.ref 87, .int (nI s)] (pp m 87 6 D K b 19 E L) Q := by
  obtain ⟨hC, hWI, hN, hV⟩ := hI
  have n2 := (hC 2 (by decide)).2
  have n4 := (hC 4 (by decide)).2
  have n8 := (hC 8 (by decide)).2
  have n10 := (hC 10 (by decide)).2
  change nv (E 1 2) ≤ 6 at n2
  change nv (E 1 4) ≤ 6 at n4
  change nv (E 1 8) ≤ 8 at n8
  change nv (E 1 10) ≤ 4 at n10
  have hk24 : T.1 ≤ 24 := by rw [hN.1]; omega
  refine ent (n := 104) z60 (by decide) rfl (by decide) (Nat.le_of_ble_eq_true rfl) (fun sc => ?_)
  refine And.intro (fun cz1 => ?_) (And.intro (fun cz1 => ?_) (And.intro (fun cz1 => ?_) (And.intro (fun cz1 => ?_) (And.intro (fun cz1 => ?_) (And.intro (fun cz1 => ?_) (And.intro (fun cz1 => ?_) (And.intro (fun cz1 => ?_) (And.intro (fun cz1 => ?_) (And.intro (fun cz1 => ?_) (And.intro (fun cz1 => ?_) (And.intro (fun cz1 => ?_) (And.intro (fun cz1 => ?_) (trivial)))))))))))))
  · -- case d
    have ez9 : s = 12 := by rw [nI_toInt (by omega)] at cz1; have : (12 : Int) ≤ (s : Int) := cz1.elim (fun z => absurd z (by omega)) id; omega
    subst ez9
    have hcj : nv (E 1 12) < 8 := hc
    refine And.intro ⟨by omega, Nat.le_of_ble_eq_true rfl, Nat.le_refl _, Nat.le_refl _⟩ (And.intro (Wdo_87 hW) ?_)
    refine L73 hW hB2 hdj (by omega) hb4 hR hTT hk24 (hC 12 (by decide)).1 hcj hN.2.1 n2 hN.2.2.1 n4 ?_ ?_
    · intro D1 K1 E1 f p e g7 g8 g9
      refine And.intro ⟨rfl, Or.inl rfl, Nat.le_refl _, Nat.le_refl _⟩ ?_
      exact hF D1 K1 E1 f p e g7 g8 g9
    · intro D1 K1 E1 T1 j2 e hr hT1
      refine And.intro ⟨rfl, Or.inr rfl, Nat.le_refl _, Nat.le_refl _⟩ ?_
      exact hO D1 K1 E1 T1 j2 e hr hT1
  · -- case 0
    have ez9 : s = 0 := keq (a := s) (b := 0) rfl rfl (by omega) (by omega) cz1
    subst ez9
    have hcj : nv (E 1 0) < 1 := hc
    refine And.intro ⟨by omega, Nat.le_of_ble_eq_true rfl, Nat.le_refl _, Nat.le_refl _⟩ (And.intro (Wdo_87 hW) ?_)
    refine L61 hW hB2 hdj (by omega) hb4 hR hTT hk24 ?_ ?_
    · intro D1 K1 E1 f p e g7 g8 g9
      refine And.intro ⟨rfl, Or.inl rfl, Nat.le_refl _, Nat.le_refl _⟩ ?_
      exact hF D1 K1 E1 f p e g7 g8 g9
    · intro D1 K1 E1 T1 j2 e hr hT1
      refine And.intro ⟨rfl, Or.inr rfl, Nat.le_refl _, Nat.le_refl _⟩ ?_
      exact hO D1 K1 E1 T1 j2 e hr hT1
  · -- case 1
    have ez9 : s = 1 := keq (a := s) (b := 1) rfl rfl (by omega) (by omega) cz1
    subst ez9
    have hcj : nv (E 1 1) < 4 := hc
    have hrw : nv (E 1 1) * nv (E 0 0) + nv (E 0 0) ≤ 24 := by
      have q1 := h1r rfl
      have q2 := hWI.2.2.2.1
      have q3 : (nv (E 1 1) + 1) * nv (E 0 0) ≤ 4 * 6 := Nat.mul_le_mul (by omega) hWI.2.1
      rw [Nat.succ_mul] at q3
      exact q3
    refine And.intro ⟨by omega, Nat.le_of_ble_eq_true rfl, Nat.le_refl _, Nat.le_refl _⟩ (And.intro (Wdo_87 hW) ?_)
    refine L62 hW hB2 hdj (by omega) hb4 hR hTT hk24 hWI.1 hWI.2.1 (hC 1 (by decide)).1 hrw ?_ ?_
    · intro D1 K1 E1 f p e g7 g8 g9
      refine And.intro ⟨rfl, Or.inl rfl, Nat.le_refl _, Nat.le_refl _⟩ ?_
      exact hF D1 K1 E1 f p e g7 g8 g9
    · intro D1 K1 E1 T1 j2 e hr hT1
      refine And.intro ⟨rfl, Or.inr rfl, Nat.le_refl _, Nat.le_refl _⟩ ?_
      exact hO D1 K1 E1 T1 j2 e hr hT1
  · -- case 2
    have ez9 : s = 2 := keq (a := s) (b := 2) rfl rfl (by omega) (by omega) cz1
    subst ez9
    have hcj : nv (E 1 2) < 6 := hc
    refine And.intro ⟨by omega, Nat.le_of_ble_eq_true rfl, Nat.le_refl _, Nat.le_refl _⟩ (And.intro (Wdo_87 hW) ?_)
    refine D82 (so := 2) hW hB2 hdj (by decide) hb4 (by omega) hR (by rw [hN.1]; omega) ?_ ?_
    · intro D1 K1 f p e g7 g8 g9
      refine And.intro ⟨rfl, Or.inl rfl, Nat.le_refl _, Nat.le_refl _⟩ ?_
      refine hF D1 K1 E f p ?_ g7 g8 g9
      show rb (tTell T 2 E B n i) _ = _
      unfold tTell
      rw [show T.2.1 = K 3 from congrArg (fun z : NT => z.2.1) hTT, e]
      rfl
    · intro D1 K1 j2 e hr q3 q4 q5 q9
      refine And.intro ⟨rfl, Or.inr rfl, Nat.le_refl _, Nat.le_refl _⟩ ?_
      refine hO D1 K1 E (tAdd T (coT B n i) 2 (E 1 2)) j2 ?_ hr ?_
      · show rb (tTell T 2 E B n i) _ = _
        unfold tTell
        rw [show T.2.1 = K 3 from congrArg (fun z : NT => z.2.1) hTT, e]
        rfl
      · rw [q3, q4, q5]; unfold tAdd; rw [hTT]
  · -- case 3
    have ez9 : s = 3 := keq (a := s) (b := 3) rfl rfl (by omega) (by omega) cz1
    subst ez9
    have hcj : nv (E 1 3) < 1 := hc
    refine And.intro ⟨by omega, Nat.le_of_ble_eq_true rfl, Nat.le_refl _, Nat.le_refl _⟩ (And.intro (Wdo_87 hW) ?_)
    refine L63 hW hB2 hdj (by omega) hb4 hR hTT hk24 ?_ ?_
    · intro D1 K1 E1 f p e g7 g8 g9
      refine And.intro ⟨rfl, Or.inl rfl, Nat.le_refl _, Nat.le_refl _⟩ ?_
      exact hF D1 K1 E1 f p e g7 g8 g9
    · intro D1 K1 E1 T1 j2 e hr hT1
      refine And.intro ⟨rfl, Or.inr rfl, Nat.le_refl _, Nat.le_refl _⟩ ?_
      exact hO D1 K1 E1 T1 j2 e hr hT1
  · -- case 4
    have ez9 : s = 4 := keq (a := s) (b := 4) rfl rfl (by omega) (by omega) cz1
    subst ez9
    have hcj : nv (E 1 4) < 6 := hc
    refine And.intro ⟨by omega, Nat.le_of_ble_eq_true rfl, Nat.le_refl _, Nat.le_refl _⟩ (And.intro (Wdo_87 hW) ?_)
    refine L64 hW hB2 hdj (by omega) hb4 hR hTT hk24 (by rw [hN.1]; omega) (hC 4 (by decide)).1 hcj ?_ ?_
    · intro D1 K1 E1 f p e g7 g8 g9
      refine And.intro ⟨rfl, Or.inl rfl, Nat.le_refl _, Nat.le_refl _⟩ ?_
      exact hF D1 K1 E1 f p e g7 g8 g9
    · intro D1 K1 E1 T1 j2 e hr hT1
      refine And.intro ⟨rfl, Or.inr rfl, Nat.le_refl _, Nat.le_refl _⟩ ?_
      exact hO D1 K1 E1 T1 j2 e hr hT1
  · -- case 5
    have ez9 : s = 5 := keq (a := s) (b := 5) rfl rfl (by omega) (by omega) cz1
    subst ez9
    have hcj : nv (E 1 5) < 16 := hc
    refine And.intro ⟨by omega, Nat.le_of_ble_eq_true rfl, Nat.le_refl _, Nat.le_refl _⟩ (And.intro (Wdo_87 hW) ?_)
    refine L65 hW hB2 hdj (by omega) hb4 hR hTT hk24 hN.2.1 n2 hN.2.2.1 n4 ?_ ?_
    · intro D1 K1 E1 f p e g7 g8 g9
      refine And.intro ⟨rfl, Or.inl rfl, Nat.le_refl _, Nat.le_refl _⟩ ?_
      exact hF D1 K1 E1 f p e g7 g8 g9
    · intro D1 K1 E1 T1 j2 e hr hT1
      refine And.intro ⟨rfl, Or.inr rfl, Nat.le_refl _, Nat.le_refl _⟩ ?_
      exact hO D1 K1 E1 T1 j2 e hr hT1
  · -- case 6
    have ez9 : s = 6 := keq (a := s) (b := 6) rfl rfl (by omega) (by omega) cz1
    subst ez9
    have hcj : nv (E 1 6) < 12 := hc
    refine And.intro ⟨by omega, Nat.le_of_ble_eq_true rfl, Nat.le_refl _, Nat.le_refl _⟩ (And.intro (Wdo_87 hW) ?_)
    refine L67 hW hB2 hdj (by omega) hb4 hR hTT hk24 hN.2.1 n2 hN.2.2.1 n4 ?_ ?_
    · intro D1 K1 E1 f p e g7 g8 g9
      refine And.intro ⟨rfl, Or.inl rfl, Nat.le_refl _, Nat.le_refl _⟩ ?_
      exact hF D1 K1 E1 f p e g7 g8 g9
    · intro D1 K1 E1 T1 j2 e hr hT1
      refine And.intro ⟨rfl, Or.inr rfl, Nat.le_refl _, Nat.le_refl _⟩ ?_
      exact hO D1 K1 E1 T1 j2 e hr hT1
  · -- case 7
    have ez9 : s = 7 := keq (a := s) (b := 7) rfl rfl (by omega) (by omega) cz1
    subst ez9
    have hcj : nv (E 1 7) < 6 := hc
    refine And.intro ⟨by omega, Nat.le_of_ble_eq_true rfl, Nat.le_refl _, Nat.le_refl _⟩ (And.intro (Wdo_87 hW) ?_)
    refine L68 hW hB2 hdj (by omega) hb4 hR hTT hk24 hN.2.1 n2 hN.2.2.1 n4 ?_ ?_
    · intro D1 K1 E1 f p e g7 g8 g9
      refine And.intro ⟨rfl, Or.inl rfl, Nat.le_refl _, Nat.le_refl _⟩ ?_
      exact hF D1 K1 E1 f p e g7 g8 g9
    · intro D1 K1 E1 T1 j2 e hr hT1
      refine And.intro ⟨rfl, Or.inr rfl, Nat.le_refl _, Nat.le_refl _⟩ ?_
      exact hO D1 K1 E1 T1 j2 e hr hT1
  · -- case 8
    have ez9 : s = 8 := keq (a := s) (b := 8) rfl rfl (by omega) (by omega) cz1
    subst ez9
    have hcj : nv (E 1 8) < 8 := hc
    refine And.intro ⟨by omega, Nat.le_of_ble_eq_true rfl, Nat.le_refl _, Nat.le_refl _⟩ (And.intro (Wdo_87 hW) ?_)
    refine L69 hW hB2 hdj (by omega) hb4 hR hTT hk24 (by rw [hN.1]; omega) (hC 8 (by decide)).1 hcj hN.2.1 n2 hN.2.2.1 n4 ?_ ?_
    · intro D1 K1 E1 f p e g7 g8 g9
      refine And.intro ⟨rfl, Or.inl rfl, Nat.le_refl _, Nat.le_refl _⟩ ?_
      exact hF D1 K1 E1 f p e g7 g8 g9
    · intro D1 K1 E1 T1 j2 e hr hT1
      refine And.intro ⟨rfl, Or.inr rfl, Nat.le_refl _, Nat.le_refl _⟩ ?_
      exact hO D1 K1 E1 T1 j2 e hr hT1
  · -- case 9
    have ez9 : s = 9 := keq (a := s) (b := 9) rfl rfl (by omega) (by omega) cz1
    subst ez9
    have hcj : nv (E 1 9) < 8 := hc
    refine And.intro ⟨by omega, Nat.le_of_ble_eq_true rfl, Nat.le_refl _, Nat.le_refl _⟩ (And.intro (Wdo_87 hW) ?_)
    refine L70 hW hB2 hdj (by omega) hb4 hR hTT hk24 hN.2.2.2 n8 ?_ ?_
    · intro D1 K1 E1 f p e g7 g8 g9
      refine And.intro ⟨rfl, Or.inl rfl, Nat.le_refl _, Nat.le_refl _⟩ ?_
      exact hF D1 K1 E1 f p e g7 g8 g9
    · intro D1 K1 E1 T1 j2 e hr hT1
      refine And.intro ⟨rfl, Or.inr rfl, Nat.le_refl _, Nat.le_refl _⟩ ?_
      exact hO D1 K1 E1 T1 j2 e hr hT1
  · -- case 10
    have ez9 : s = 10 := keq (a := s) (b := 10) rfl rfl (by omega) (by omega) cz1
    subst ez9
    have hcj : nv (E 1 10) < 4 := hc
    refine And.intro ⟨by omega, Nat.le_of_ble_eq_true rfl, Nat.le_refl _, Nat.le_refl _⟩ (And.intro (Wdo_87 hW) ?_)
    refine L71 hW hB2 hdj (by omega) hb4 hR hTT hk24 (by rw [hN.1]; omega) (hC 10 (by decide)).1 hcj hN.2.1 n2 hN.2.2.1 n4 ?_ ?_
    · intro D1 K1 E1 f p e g7 g8 g9
      refine And.intro ⟨rfl, Or.inl rfl, Nat.le_refl _, Nat.le_refl _⟩ ?_
      exact hF D1 K1 E1 f p e g7 g8 g9
    · intro D1 K1 E1 T1 j2 e hr hT1
      refine And.intro ⟨rfl, Or.inr rfl, Nat.le_refl _, Nat.le_refl _⟩ ?_
      exact hO D1 K1 E1 T1 j2 e hr hT1
  · -- case 11
    have ez9 : s = 11 := keq (a := s) (b := 11) rfl rfl (by omega) (by omega) cz1
    subst ez9
    have hcj : nv (E 1 11) < 6 := hc
    refine And.intro ⟨by omega, Nat.le_of_ble_eq_true rfl, Nat.le_refl _, Nat.le_refl _⟩ (And.intro (Wdo_87 hW) ?_)
    refine L72 hW hB2 hdj (by omega) hb4 hR hTT hk24 (hC 11 (by decide)).1 hcj ?_ ?_
    · intro D1 K1 E1 f p e g7 g8 g9
      refine And.intro ⟨rfl, Or.inl rfl, Nat.le_refl _, Nat.le_refl _⟩ ?_
      exact hF D1 K1 E1 f p e g7 g8 g9
    · intro D1 K1 E1 T1 j2 e hr hT1
      refine And.intro ⟨rfl, Or.inr rfl, Nat.le_refl _, Nat.le_refl _⟩ ?_
      exact hO D1 K1 E1 T1 j2 e hr hT1
