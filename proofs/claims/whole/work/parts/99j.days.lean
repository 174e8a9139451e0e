/-- in the reference: a prayer that has not come -/
def NE (E : Nat → Nat → Int32) (p : Nat) : Prop := E 0 p = -nI 1 ∧ E 2 p = nI 2 ∧ E 3 p = -nI 2 ∧ E 4 p = nI 0 ∧ E 5 p = nI 0
def ALs (D E : Nat → Nat → Int32) (p k bv : Nat) : Prop := (∀ g, g < 6 → (bq (nI bv) (nI g) ↔ ∃ i, i < k ∧ D 10 (p * 97 + i) = nI g)) ∧ ∀ i, i < k → E 6 (100 * p + i) = D 10 (p * 97 + i) ∧ iR (D 10 (p * 97 + i)) 6
/-- a prayer that has come: the rows of both -/
def AR (D E : Nat → Nat → Int32) (p : Nat) : Prop := E 0 p = D 5 p ∧ E 1 p = D 6 p ∧ E 2 p = D 1 p ∧ E 3 p = D 2 p ∧ E 4 p = D 7 p ∧ E 5 p = D 8 p ∧ ∃ k bv, 0 < k ∧ k ≤ 97 ∧ D 8 p = nI k ∧ bv < 64 ∧ D 9 p = nI bv ∧ ALs D E p k bv
/-- in the class: a prayer that has not come -/
def FR (Λ : Nat → Nat → Int32) (w : Int32) (g0 : Nat) (D : Nat → Nat → Int32) (p : Nat) : Prop := D 1 p = nI 2 ∧ D 2 p = -nI 2 ∧ D 5 p = nI (beG Λ w g0 p) ∧ beG Λ w g0 p < 6 ∧ D 6 p = Λ 9 (p * 7 + 4) ∧ D 7 p = nI 0 ∧ D 8 p = nI 1 ∧ D 9 p = nI 1 <<< (nI (beG Λ w g0 p) &&& 31) ∧ D 10 (p * 97 + 0) = nI (beG Λ w g0 p)
def DP (Λ : Nat → Nat → Int32) (np : Nat) (l w : Int32) (g0 t : Nat) (D E : Nat → Nat → Int32) (p : Nat) : Prop := (prP np w p ∧ D 3 p = Λ 9 (p * 7 + 2) ∧ D 4 p = weF (Λ 9) l p ∧ (nv (Λ 9 (p * 7 + 4)) < t ∧ AR D E p ∨ t ≤ nv (Λ 9 (p * 7 + 4)) ∧ FR Λ w g0 D p ∧ NE E p)) ∨ (¬ prP np w p ∧ D 1 p = nI 3 ∧ D 7 p = nI 0 ∧ NE E p)
def opn (D : Nat → Nat → Int32) (n : Nat) : Nat := fo (fun p y => if D 1 p = nI 2 then y + 1 else y) 0 n
theorem opn_s {D : Nat → Nat → Int32} {n : Nat} : opn D (n + 1) = (if D 1 n = nI 2 then opn D n + 1 else opn D n) := fo_s
def DE (Λ : Nat → Nat → Int32) (np : Nat) (l w : Int32) (g0 t : Nat) (D E : Nat → Nat → Int32) : Prop := (∀ p, p < 8 → DP Λ np l w g0 t D E p) ∧ D 0 11 = nI (opn D 8) ∧ DI np D
theorem opn_l {D : Nat → Nat → Int32} : ∀ n, opn D n ≤ n
  | 0 => Nat.le_refl _
  | n + 1 => by
    have := opn_l (D := D) n
    rw [opn_s]
    split <;> omega
theorem opn_c {D D2 : Nat → Nat → Int32} : ∀ n, (∀ p, p < n → (D2 1 p = nI 2 ↔ D 1 p = nI 2)) → opn D2 n = opn D n
  | 0, _ => rfl
  | n + 1, h => by
    rw [opn_s, opn_s, opn_c n (fun p hp => h p (by omega))]
    by_cases e : D 1 n = nI 2
    · rw [if_pos e, if_pos ((h n (by omega)).mpr e)]
    · rw [if_neg e, if_neg (fun z => e ((h n (by omega)).mp z))]
theorem opn_1 {D D2 : Nat → Nat → Int32} {p : Nat} (h1 : D 1 p = nI 2) (h2 : ¬ D2 1 p = nI 2) (ho : ∀ x, x ≠ p → D2 1 x = D 1 x) : ∀ n, p < n → opn D2 n + 1 = opn D n
  | 0, h => absurd h (Nat.not_lt_zero _)
  | n + 1, h => by
    rw [opn_s, opn_s]
    by_cases e : p = n
    · rw [← e, if_pos h1, if_neg h2, opn_c p (fun x hx => by rw [ho x (by omega)])]
    · rw [ho n (Ne.symm e)]
      have := opn_1 h1 h2 ho n (by omega)
      split <;> omega
theorem opn_0 {D : Nat → Nat → Int32} : ∀ n, opn D n = 0 → ∀ p, p < n → ¬ D 1 p = nI 2
  | 0, _, p, h => absurd h (Nat.not_lt_zero _)
  | n + 1, h0, p, h => by
    rw [opn_s] at h0
    by_cases e : D 1 n = nI 2
    · rw [if_pos e] at h0; exact absurd h0 (by omega)
    · rw [if_neg e] at h0
      by_cases ez1 : p = n
      · rw [ez1]; exact e
      · exact opn_0 n h0 p (by omega)
theorem DP_fr {Λ : Nat → Nat → Int32} {np : Nat} {l w : Int32} {g0 t : Nat} {D E D2 E2 : Nat → Nat → Int32} {p : Nat} (hD : ∀ f, 0 < f → f < 10 → D2 f p = D f p) (hL : ∀ i, i < 97 → D2 10 (p * 97 + i) = D 10 (p * 97 + i)) (hE : ∀ f, f < 6 → E2 f p = E f p) (hM : ∀ i, i < 100 → E2 6 (100 * p + i) = E 6 (100 * p + i)) (h : DP Λ np l w g0 t D E p) : DP Λ np l w g0 t D2 E2 p := by
  have hN : NE E p → NE E2 p := fun z => by
    unfold NE at z ⊢
    rw [hE 0 (by decide), hE 2 (by decide), hE 3 (by decide), hE 4 (by decide), hE 5 (by decide)]
    exact z
  unfold DP at h ⊢
  rw [hD 1 (by decide) (by decide), hD 3 (by decide) (by decide), hD 4 (by decide) (by decide), hD 7 (by decide) (by decide)]
  rcases h with ⟨a1, a2, a3, a4⟩ | ⟨a1, a2, a7, a3⟩
  · refine Or.inl ⟨a1, a2, a3, ?_⟩
    rcases a4 with ⟨b1, b2⟩ | ⟨b1, b2, b3⟩
    · refine Or.inl ⟨b1, ?_⟩
      obtain ⟨x0, x1, x2, x3, x4, x5, k, bv, y1, y2, y3, y4, y5, y6⟩ := b2
      unfold AR
      rw [hE 0 (by decide), hE 1 (by decide), hE 2 (by decide), hE 3 (by decide), hE 4 (by decide), hE 5 (by decide), hD 5 (by decide) (by decide), hD 6 (by decide) (by decide), hD 1 (by decide) (by decide), hD 2 (by decide) (by decide), hD 7 (by decide) (by decide), hD 8 (by decide) (by decide), hD 9 (by decide) (by decide)]
      refine ⟨x0, x1, x2, x3, x4, x5, k, bv, y1, y2, y3, y4, y5, fun g hg => ?_, fun i hi => ?_⟩
      · rw [y6.1 g hg]
        exact ⟨fun ⟨i, h1, h2⟩ => ⟨i, h1, by rw [hL i (by omega)]; exact h2⟩, fun ⟨i, h1, h2⟩ => ⟨i, h1, by rw [hL i (by omega)] at h2; exact h2⟩⟩
      · rw [hL i (by omega), hM i (by omega)]
        exact y6.2 i hi
    · refine Or.inr ⟨b1, ?_, hN b3⟩
      unfold FR at b2 ⊢
      rw [hD 1 (by decide) (by decide), hD 2 (by decide) (by decide), hD 5 (by decide) (by decide), hD 6 (by decide) (by decide), hD 7 (by decide) (by decide), hD 8 (by decide) (by decide), hD 9 (by decide) (by decide), hL 0 (by decide)]
      exact b2
  · exact Or.inr ⟨a1, a2, a7, hN a3⟩
/-- who stands at an altar, stands there for both -/
theorem DP_st {Λ Ψ : Nat → Nat → Int32} {n np : Nat} {l w : Int32} {g0 h g : Nat} {D E : Nat → Nat → Int32} {p : Nat} (hJ : JE Λ Ψ n np) (hh : h ≤ 95) (hg : g < 6) (hp : DP Λ np l w g0 (h + 1) D E p) : ((E 0 p = nI g ∧ E 2 p = nI 2 ∧ E 1 p ≤ nI h) ↔ ¬ stF (D 1) (D 5) (D 6) p (nI g) (nI h) = 0) ∧ (¬ stF (D 1) (D 5) (D 6) p (nI g) (nI h) = 0 → prP np w p ∧ D 3 p = Λ 9 (p * 7 + 2) ∧ D 4 p = weF (Λ 9) l p ∧ nv (Λ 9 (p * 7 + 4)) < h + 1 ∧ AR D E p) := by
  have hm1 : ¬ E 0 p = -nI 1 ∨ ¬ E 0 p = nI g := by
    by_cases z : E 0 p = -nI 1
    · exact Or.inr (fun y => nI_neg1 (show g < 2 ^ 31 by omega) (y.symm.trans z))
    · exact Or.inl z
  rcases hp with ⟨a1, a2, a3, a4⟩ | ⟨a1, a2, a7, a3⟩
  · rcases a4 with ⟨b1, b2⟩ | ⟨b1, b2, b3⟩
    · refine ⟨?_, fun _ => ⟨a1, a2, a3, b1, b2⟩⟩
      rw [b2.1, b2.2.1, b2.2.2.1]
      unfold stF
      constructor
      · rintro ⟨x1, x2, x3⟩
        rw [if_pos x2, if_pos x1, if_neg (Int32.not_lt.mpr x3)]
        decide
      · intro z
        by_cases x2 : D 1 p = nI 2
        · rw [if_pos x2] at z
          by_cases x1 : D 5 p = nI g
          · rw [if_pos x1] at z
            by_cases x3 : nI h < D 6 p
            · rw [if_pos x3] at z; exact absurd rfl z
            · exact ⟨x1, x2, Int32.not_lt.mp x3⟩
          · rw [if_neg x1] at z; exact absurd rfl z
        · rw [if_neg x2] at z; exact absurd rfl z
    · have ez0 : stF (D 1) (D 5) (D 6) p (nI g) (nI h) = 0 := by
        unfold stF
        obtain ⟨wp, hwp, ewp⟩ := (hJ.1 p a1.1).2.2.2
        rw [b2.2.2.2.2.1, ewp]
        rw [ewp, nv_nI (by omega)] at b1
        split
        · split
          · rw [if_pos (nI_lt (show h < wp by omega) (by omega))]; rfl
          · rfl
        · rfl
      exact ⟨⟨fun z => absurd z.1 (hm1.resolve_left (fun y => y b3.1)), fun z => absurd ez0 z⟩, fun z => absurd ez0 z⟩
  · have ez0 : stF (D 1) (D 5) (D 6) p (nI g) (nI h) = 0 := by
      unfold stF
      rw [if_neg (by rw [a2]; decide)]
      rfl
    exact ⟨⟨fun z => absurd z.1 (hm1.resolve_left (fun y => y a3.1)), fun z => absurd ez0 z⟩, fun z => absurd ez0 z⟩
def coE (E : Nat → Nat → Int32) (p : Nat) (g h : Int32) (k : Nat) : Nat → Nat → Int32 := ud (ud (ud (ud E 0 p g) 1 p h) 6 (100 * p + k) g) 5 p (nI k + nI 1)
def waE (E : Nat → Nat → Int32) (p : Nat) (h : Int32) : Nat → Nat → Int32 := ud E 4 p (E 4 p + (h - E 1 p))
def seE (E : Nat → Nat → Int32) (p : Nat) (f h : Int32) : Nat → Nat → Int32 := ud (ud E 2 p f) 3 p h
def sdF (Λ Ψ D E : Nat → Nat → Int32) (p g h k : Nat) : Nat → Nat → Int32 := if graF Λ Ψ D p g = 0 then (if goF Λ Ψ p g = -nI 2 then seE (waE E p (nI h)) p (nI 1) (nI h) else coE (waE E p (nI h)) p (goF Λ Ψ p g) (nI h + nI 1) k) else seE (waE E p (nI h)) p (nI 0) (nI h)
/-- a prayer ends: for both -/
theorem AR_set {D E : Nat → Nat → Int32} {p h : Nat} {f : Int32} (hA : AR D E p) : AR (setF (waF D p h) p f (nI h)) (seE (waE E p (nI h)) p f (nI h)) p := by
  obtain ⟨x0, x1, x2, x3, x4, x5, k, bv, y1, y2, y3, y4, y5, y6⟩ := hA
  refine ⟨x0, x1, ?_, ?_, ?_, x5, k, bv, y1, y2, y3, y4, y5, y6⟩
  · show upd (E 2) p f p = upd (D 1) p f p
    rw [upd_e, upd_e]
  · show upd (E 3) p (nI h) p = upd (D 2) p (nI h) p
    rw [upd_e, upd_e]
  · show upd (E 4) p (E 4 p + (nI h - E 1 p)) p = upd (D 7) p (D 7 p + (nI h - D 6 p)) p
    rw [upd_e, upd_e, x4, x1]
theorem or_b : ∀ v, v < 64 → ∀ j, j < 6 → ∀ g, g < 6 → (bq (nI v ||| nI 1 <<< (nI j &&& 31)) (nI g) ↔ bq (nI v) (nI g) ∨ g = j) := by decide +kernel
theorem AR_com {D E : Nat → Nat → Int32} {p h g k : Nat} (hA : AR D E p) (hg : g < 6) (hk : D 8 p = nI k) (hk96 : k < 97) : AR (comF (waF D p h) p g (nI h + nI 1) k) (coE (waE E p (nI h)) p (nI g) (nI h + nI 1) k) p := by
  obtain ⟨x0, x1, x2, x3, x4, x5, kk, bv, y1, y2, y3, y4, y5, y6⟩ := hA
  have ek : kk = k := (nI_eq (by omega) (by omega)).mp (y3.symm.trans hk)
  subst ek
  have d10 : comF (waF D p h) p g (nI h + nI 1) kk 10 = upd (D 10) (p * 97 + kk) (nI g) := rfl
  have ee6 : coE (waE E p (nI h)) p (nI g) (nI h + nI 1) kk 6 = upd (E 6) (100 * p + kk) (nI g) := rfl
  have ob := or_64 bv y4 g hg
  refine ⟨?_, ?_, x2, x3, ?_, ?_, kk + 1, nv (nI bv ||| nI 1 <<< (nI g &&& 31)), by omega, by omega, ?_, ob.1, ?_, fun g1 hg1 => ?_, fun i hi => ?_⟩
  · show upd (E 0) p (nI g) p = upd (D 5) p (nI g) p
    rw [upd_e, upd_e]
  · show upd (E 1) p (nI h + nI 1) p = upd (D 6) p (nI h + nI 1) p
    rw [upd_e, upd_e]
  · show upd (E 4) p (E 4 p + (nI h - E 1 p)) p = upd (D 7) p (D 7 p + (nI h - D 6 p)) p
    rw [upd_e, upd_e, x4, x1]
  · show upd (E 5) p (nI kk + nI 1) p = upd (D 8) p (nI kk + nI 1) p
    rw [upd_e, upd_e]
  · show upd (D 8) p (nI kk + nI 1) p = nI (kk + 1)
    rw [upd_e, nI_add]
  · show upd (D 9) p (D 9 p ||| nI 1 <<< (nI g &&& 31)) p = _
    rw [upd_e, y5]
    exact ob.2
  · rw [← ob.2, or_b bv y4 g hg g1 hg1, y6.1 g1 hg1, d10]
    constructor
    · rintro (⟨i, h1, h2⟩ | z)
      · exact ⟨i, by omega, by rw [upd_o (by omega)]; exact h2⟩
      · exact ⟨kk, by omega, by rw [upd_e, z]⟩
    · rintro ⟨i, h1, h2⟩
      by_cases e : i = kk
      · rw [e, upd_e] at h2
        exact Or.inr ((nI_eq (by omega) (by omega)).mp h2).symm
      · rw [upd_o (by omega)] at h2
        exact Or.inl ⟨i, by omega, h2⟩
  · rw [d10, ee6]
    by_cases e : i = kk
    · rw [e, upd_e, upd_e]
      exact ⟨rfl, g, hg, rfl⟩
    · rw [upd_o (by omega), upd_o (by omega)]
      exact y6.2 i (by omega)
