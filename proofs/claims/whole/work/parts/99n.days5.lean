theorem beP_o {Λ X : Nat → Nat → Int32} {l h : Int32} {i x g f : Nat} (hx : x ≠ i) (h1 : 0 < f) (h2 : f < 10) : comF (beY Λ l (beZ X i (nI 2)) i) i g h 0 f x = X f x := by
  rcases cz9 h1 h2 with rfl | rfl | rfl | rfl | rfl | rfl | rfl | rfl | rfl
  · exact upd_o hx
  · exact upd_o hx
  · exact upd_o hx
  · exact upd_o hx
  · exact upd_o hx
  · exact upd_o hx
  · exact upd_o hx
  · exact (upd_o hx).trans (upd_o hx)
  · exact (upd_o hx).trans (upd_o hx)
theorem beZ_o {X : Nat → Nat → Int32} {a : Int32} {i x f : Nat} (hx : x ≠ i) (h1 : 0 < f) (h2 : f < 10) : beZ X i a f x = X f x := by
  rcases cz9 h1 h2 with rfl | rfl | rfl | rfl | rfl | rfl | rfl | rfl | rfl
  · exact upd_o hx
  · exact upd_o hx
  · rfl
  · rfl
  · rfl
  · rfl
  · exact upd_o hx
  · exact upd_o hx
  · exact upd_o hx
def BI (Λ : Nat → Nat → Int32) (np : Nat) (l w : Int32) (g0 : Nat) (D : Nat → Nat → Int32) (p : Nat) : Prop := (prP np w p → FR Λ w g0 D p ∧ D 3 p = Λ 9 (p * 7 + 2) ∧ D 4 p = weF (Λ 9) l p) ∧ (¬ prP np w p → D 1 p = nI 3 ∧ D 7 p = nI 0)
theorem BI_fr {Λ : Nat → Nat → Int32} {np : Nat} {l w : Int32} {g0 : Nat} {D D2 : Nat → Nat → Int32} {p : Nat} (hD : ∀ f, 0 < f → f < 10 → D2 f p = D f p) (hL : D2 10 (p * 97 + 0) = D 10 (p * 97 + 0)) (h : BI Λ np l w g0 D p) : BI Λ np l w g0 D2 p := by
  unfold BI FR at h ⊢
  rw [hD 1 (by decide) (by decide), hD 2 (by decide) (by decide), hD 3 (by decide) (by decide), hD 4 (by decide) (by decide), hD 5 (by decide) (by decide), hD 6 (by decide) (by decide), hD 7 (by decide) (by decide), hD 8 (by decide) (by decide), hD 9 (by decide) (by decide), hL]
  exact h
theorem or_0l {x : Int32} : nI 0 ||| x = x := Int32.zero_or
theorem be_BI {Λ Ψ D : Nat → Nat → Int32} {n np g0 : Nat} {l w : Int32} (hJ : JE Λ Ψ n np) (hg : ¬ w = -nI 1 → g0 < 6) : ∀ i, i ≤ 8 → (∀ p, p < i → BI Λ np l w g0 (beQ Λ np l w g0 D i) p) ∧ beQ Λ np l w g0 D i 0 11 = nI (opn (beQ Λ np l w g0 D i) i)
  | 0, _ => ⟨fun p h => absurd h (Nat.not_lt_zero _), by show upd (D 0) 11 (nI 0) 11 = nI 0; exact upd_e⟩
  | i + 1, hi => by
    obtain ⟨ih1, ih2⟩ := be_BI (Λ := Λ) (Ψ := Ψ) (D := D) (l := l) hJ hg i (by omega)
    rw [beQ_s]
    generalize beQ Λ np l w g0 D i = X at *
    unfold beS
    by_cases hp : prP np w i
    · rw [if_pos hp]
      have hgg : beG Λ w g0 i < 6 := by
        unfold beG
        split
        · obtain ⟨s, hs, es⟩ := (hJ.1 i hp.1).2.2.1
          rw [es, nv_nI (by omega)]
          exact hs
        · next z => exact hg z
      generalize hGG : beG Λ w g0 i = gg at *
      refine ⟨fun p hpi => ?_, ?_⟩
      · by_cases e : p = i
        · rw [e]
          refine ⟨fun _ => ⟨⟨upd_e, upd_e, ?_, ?_, upd_e, upd_e, ?_, ?_, ?_⟩, upd_e, upd_e⟩, fun z => absurd hp z⟩
          · rw [hGG]; exact upd_e
          · rw [hGG]; exact hgg
          · show upd (upd (X 8) i (nI 0)) i (nI 0 + nI 1) i = nI 1
            rw [upd_e]; rfl
          · show upd (upd (X 9) i (nI 0)) i (upd (X 9) i (nI 0) i ||| nI 1 <<< (nI gg &&& 31)) i = _
            rw [upd_e, upd_e, hGG, or_0l]
          · rw [hGG]; exact upd_e
        · refine BI_fr (fun f a b => beP_o e a b) ?_ (ih1 p (by omega))
          show upd (X 10) (i * 97 + 0) (nI gg) (p * 97 + 0) = _
          exact upd_o (by omega)
      · show upd (X 0) 11 (X 0 11 + nI 1) 11 = _
        rw [upd_e, ih2, opn_s, if_pos (show comF (beY Λ l (beZ X i (nI 2)) i) i gg (Λ 9 (i * 7 + 4)) 0 1 i = nI 2 from upd_e), opn_c (D := X) (D2 := comF (beY Λ l (beZ X i (nI 2)) i) i gg (Λ 9 (i * 7 + 4)) 0) i (fun x hx => by rw [beP_o (by omega) (by decide) (by decide)]), nI_add]
    · rw [if_neg hp]
      refine ⟨fun p hpi => ?_, ?_⟩
      · by_cases e : p = i
        · rw [e]
          exact ⟨fun z => absurd z hp, fun _ => ⟨upd_e, upd_e⟩⟩
        · exact BI_fr (fun f a b => beZ_o e a b) rfl (ih1 p (by omega))
      · show X 0 11 = _
        rw [ih2, opn_s, if_neg (fun z => absurd ((show beZ X i (nI 3) 1 i = nI 3 from upd_e).symm.trans z) (by decide)), opn_c (D := X) (D2 := beZ X i (nI 3)) i (fun x hx => by rw [beZ_o (by omega) (by decide) (by decide)])]
theorem DE_init {Λ Ψ D E : Nat → Nat → Int32} {n np g0 : Nat} {l w : Int32} (hJ : JE Λ Ψ n np) (hg : ¬ w = -nI 1 → g0 < 6) (hE : ∀ p, p < 8 → NE E p) : DE Λ np l w g0 0 (beQ Λ np l w g0 D 8) E := by
  obtain ⟨h1, h2⟩ := be_BI (Λ := Λ) (Ψ := Ψ) (D := D) (l := l) hJ hg 8 (Nat.le_refl _)
  refine ⟨fun p hp => ?_, h2, fun p hp => be_DI hJ hg 8 (Nat.le_refl _) p hp⟩
  by_cases h : prP np w p
  · obtain ⟨a, b, g⟩ := (h1 p hp).1 h
    exact Or.inl ⟨h, b, g, Or.inr ⟨Nat.zero_le _, a, hE p hp⟩⟩
  · exact Or.inr ⟨h, ((h1 p hp).2 h).1, ((h1 p hp).2 h).2, hE p hp⟩
theorem DP_wait {Λ Ψ D E : Nat → Nat → Int32} {n np g0 t p : Nat} {l w : Int32} (hJ : JE Λ Ψ n np) (h : DP Λ np l w g0 t D E p) (hn : ¬ (prP np w p ∧ Λ 9 (p * 7 + 4) = nI t)) : DP Λ np l w g0 (t + 1) D E p := by
  rcases h with ⟨a1, a2, a3, a4⟩ | h
  · refine Or.inl ⟨a1, a2, a3, ?_⟩
    rcases a4 with ⟨b1, b2⟩ | ⟨b1, b2⟩
    · exact Or.inl ⟨by omega, b2⟩
    · refine Or.inr ⟨?_, b2⟩
      obtain ⟨x, hx, ex⟩ := (hJ.1 p a1.1).2.2.2
      rw [ex, nv_nI (by omega)] at b1 ⊢
      rcases Nat.lt_or_ge t x with z | z
      · exact z
      · exact absurd ⟨a1, by rw [ex, show x = t by omega]⟩ hn
  · exact Or.inr h
theorem b1_i : ∀ j, j < 6 → nI 1 <<< (nI j &&& 31) = nI (2 ^ j) ∧ 2 ^ j < 64 := by decide +kernel
theorem DP_arr {Λ D E : Nat → Nat → Int32} {np g0 t p : Nat} {l w gv : Int32} (h : DP Λ np l w g0 t D E p) (hp : prP np w p) (ht : Λ 9 (p * 7 + 4) = nI t) (ht31 : t < 2 ^ 31) (hg : gv = nI (beG Λ w g0 p)) : E 5 p = nI 0 ∧ DP Λ np l w g0 (t + 1) D (coE E p gv (nI t) 0) p := by
  rcases h with ⟨a1, a2, a3, a4⟩ | h
  · have e : nv (Λ 9 (p * 7 + 4)) = t := by rw [ht, nv_nI ht31]
    rcases a4 with ⟨b1, b2⟩ | ⟨b1, ⟨f1, f2, f3, f4, f5, f6, f7, f8, f9⟩, ⟨x0, x2, x3, x4, x5⟩⟩
    · exact absurd b1 (by omega)
    · refine ⟨x5, Or.inl ⟨a1, a2, a3, Or.inl ⟨by omega, ?_⟩⟩⟩
      generalize beG Λ w g0 p = gs at *
      obtain ⟨w1, w2⟩ := b1_i gs f4
      refine ⟨?_, ?_, ?_, ?_, ?_, ?_, 1, 2 ^ gs, by decide, by decide, f7, w2, f8.trans w1, fun g1 hg1 => ?_, fun i hi => ?_⟩
      · show upd (E 0) p gv p = _
        rw [upd_e, hg, f3]
      · show upd (E 1) p (nI t) p = _
        rw [upd_e, f5, ht]
      · exact x2.trans f1.symm
      · exact x3.trans f2.symm
      · exact x4.trans f6.symm
      · show upd (E 5) p (nI 0 + nI 1) p = _
        rw [upd_e, f7]; rfl
      · rw [← w1, bq_1 gs (by omega) g1 (by omega)]
        constructor
        · intro z
          exact ⟨0, by decide, by rw [z]; exact f9⟩
        · rintro ⟨i, hi, he⟩
          rw [show i = 0 by omega, f9] at he
          exact ((nI_eq (by omega) (by omega)).mp he).symm
      · rw [show i = 0 by omega, f9]
        refine ⟨?_, gs, f4, rfl⟩
        show upd (E 6) (100 * p + 0) gv (100 * p + 0) = _
        rw [upd_e, hg]
  · exact absurd hp h.1
theorem DE_cq {Λ D E : Nat → Nat → Int32} {np g0 t h : Nat} {l w : Int32} (hD : DE Λ np l w g0 t D E) : DE Λ np l w g0 t (cqF D h) E := by
  have hr : ∀ f, f ≠ 11 → cqF D h f = D f := fun f hf => cqF_r hf
  refine ⟨fun p hp => DP_fr (fun f a b => by rw [hr f (by omega)]) (fun i _ => by rw [hr 10 (by decide)]) (fun _ _ => rfl) (fun _ _ => rfl) (hD.1 p hp), ?_, DI_r hD.2.2 (hr 1 (by decide)) (hr 5 (by decide)) (hr 6 (by decide)) (hr 8 (by decide))⟩
  rw [hr 0 (by decide), hD.2.1, opn_c (D := D) (D2 := cqF D h) 8 (fun p hp => by rw [hr 1 (by decide)])]
/-- no one open: a god who receives serves nobody -/
theorem se_no {Λ Ψ D : Nat → Nat → Int32} {g h n1 : Nat} (hD2 : D 0 11 = nI (opn D 8)) (h0 : D 0 11 ≤ 0) : seQ Λ Ψ D g h n1 = D := by
  have hn := DE_no (Λ := Λ) (Ψ := Ψ) (np := 0) hD2 h0
  have hf : ¬ foF (seQ Λ Ψ D g h 0) g h < 8 := fun z => hn _ z (stF_e (foQ_st (D := D) (Nat.le_refl 8) z)).1
  have := seQ_n hf n1
  rw [Nat.zero_add] at this
  exact this
/-- the waits at the end -/
def FW (n : Nat) (E0 E : Nat → Nat → Int32) : Prop := (∀ f, f ≠ 4 → E f = E0 f) ∧ (∀ x, x < n → ¬ E0 0 x = -nI 1 → E0 2 x = nI 2 → E 4 x = E0 4 x + (nI 96 - E0 1 x)) ∧ ∀ x, ¬ (x < n ∧ ¬ E0 0 x = -nI 1 ∧ E0 2 x = nI 2) → E 4 x = E0 4 x
