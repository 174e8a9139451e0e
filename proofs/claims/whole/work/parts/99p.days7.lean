theorem wfQ_r {D : Nat → Nat → Int32} {f : Nat} (hf : f ≠ 7) : ∀ i, wfQ D i f = D f
  | 0 => rfl
  | i + 1 => by
    rw [wfQ_s]
    unfold wfS
    split
    · rw [ud_ne hf]; exact wfQ_r hf i
    · exact wfQ_r hf i
theorem wfQ_7 {D : Nat → Nat → Int32} : ∀ i x, wfQ D i 7 x = if x < i ∧ D 1 x = nI 2 then D 7 x + (nI 96 - D 6 x) else D 7 x
  | 0, x => by
    rw [if_neg (fun z => absurd z.1 (Nat.not_lt_zero _))]
    rfl
  | i + 1, x => by
    have r1 := wfQ_r (D := D) (f := 1) (by decide) i
    have r6 := wfQ_r (D := D) (f := 6) (by decide) i
    rw [wfQ_s]
    unfold wfS
    by_cases e : D 1 i = nI 2
    · rw [if_pos (by rw [r1]; exact e), ud_eq]
      by_cases ex : x = i
      · rw [ex, upd_e, r6, wfQ_7 i i, if_neg (fun z => absurd z.1 (Nat.lt_irrefl _)), if_pos ⟨by omega, e⟩]
      · rw [upd_o ex, wfQ_7 i x]
        by_cases z : x < i ∧ D 1 x = nI 2
        · rw [if_pos z, if_pos ⟨by omega, z.2⟩]
        · rw [if_neg z, if_neg (fun y => z ⟨by omega, y.2⟩)]
    · rw [if_neg (by rw [r1]; exact e), wfQ_7 i x]
      by_cases z : x < i ∧ D 1 x = nI 2
      · rw [if_pos z, if_pos ⟨by omega, z.2⟩]
      · refine (if_neg z).trans (if_neg (fun y => ?_)).symm
        by_cases ex : x = i
        · rw [ex] at y; exact e y.2
        · exact z ⟨by omega, y.2⟩
theorem DE_fin {Λ Ψ Dh E0 E : Nat → Nat → Int32} {n np g0 p : Nat} {l w : Int32} (hJ : JE Λ Ψ n np) (h : DE Λ np l w g0 96 Dh E0) (hF : FW np E0 E) (hp8 : p < 8) (hpr : prP np w p) : AR (wfQ Dh 8) E p := by
  rcases h.1 p hp8 with ⟨a1, a2, a3, a4⟩ | hd
  · obtain ⟨x, hx, ex⟩ := (hJ.1 p hpr.1).2.2.2
    have hA : AR Dh E0 p := by
      rcases a4 with ⟨_, b⟩ | ⟨b, _⟩
      · exact b
      · rw [ex, nv_nI (by omega)] at b
        exact absurd b (by omega)
    obtain ⟨x0, x1, x2, x3, x4, x5, k, bv, y1, y2, y3, y4, y5, y6⟩ := hA
    have r : ∀ f, f ≠ 7 → wfQ Dh 8 f = Dh f := fun f hf => wfQ_r hf 8
    have hg := h.2.2 p hp8
    unfold AR ALs
    rw [r 5 (by decide), r 6 (by decide), r 1 (by decide), r 2 (by decide), r 8 (by decide), r 9 (by decide), r 10 (by decide), hF.1 0 (by decide), hF.1 1 (by decide), hF.1 2 (by decide), hF.1 3 (by decide), hF.1 5 (by decide), hF.1 6 (by decide)]
    refine ⟨x0, x1, x2, x3, ?_, x5, k, bv, y1, y2, y3, y4, y5, y6⟩
    rw [wfQ_7]
    by_cases e : Dh 1 p = nI 2
    · obtain ⟨-, ⟨g, hg6, eg⟩, -⟩ := hg e
      rw [if_pos ⟨hp8, e⟩, hF.2.1 p hpr.1 (by rw [x0, eg]; exact nI_neg1 (by omega)) (x2.trans e), x4, x1]
    · rw [if_neg (fun z => e z.2), hF.2.2 p (fun z => e (x2.symm.trans z.2.2)), x4]
  · exact absurd hpr hd.1
theorem DE_fin3 {Λ Ψ Dh E0 : Nat → Nat → Int32} {np g0 p : Nat} {l w : Int32} (h : DE Λ np l w g0 96 Dh E0) (hp8 : p < 8) : (prP np w p → wfQ Dh 8 3 p = Λ 9 (p * 7 + 2)) ∧ (¬ prP np w p → wfQ Dh 8 1 p = nI 3 ∧ wfQ Dh 8 7 p = nI 0) := by
  rcases h.1 p hp8 with ⟨a1, a2, a3, a4⟩ | ⟨a1, a2, a7, a3⟩
  · exact ⟨fun _ => by rw [wfQ_r (by decide)]; exact a2, fun z => absurd a1 z⟩
  · refine ⟨fun z => absurd z a1, fun _ => ⟨by rw [wfQ_r (by decide)]; exact a2, ?_⟩⟩
    rw [wfQ_7, if_neg (fun z => absurd (a2.symm.trans z.2) (by decide))]
    exact a7
/-- what the two know at the end -/
def FE (Λ : Nat → Nat → Int32) (np : Nat) (w : Int32) (D E : Nat → Nat → Int32) : Prop := ∀ p, p < 8 → (prP np w p → AR D E p ∧ D 3 p = Λ 9 (p * 7 + 2)) ∧ (¬ prP np w p → D 1 p = nI 3 ∧ D 7 p = nI 0)
theorem FE_of {Λ Ψ D E0 E : Nat → Nat → Int32} {n np g0 : Nat} {l w : Int32} (hJ : JE Λ Ψ n np) (h : DE Λ np l w g0 96 (hrQ Λ Ψ n (beQ Λ np l w g0 D 8) 96) E0) (hF : FW np E0 E) : FE Λ np w (runF Λ Ψ n np l w g0 D) E := fun p hp => by
  have e : runF Λ Ψ n np l w g0 D = wfQ (hrQ Λ Ψ n (beQ Λ np l w g0 D 8) 96) 8 := rfl
  rw [e]
  generalize hrQ Λ Ψ n (beQ Λ np l w g0 D 8) 96 = Dh at *
  have h3 := DE_fin3 (Ψ := Ψ) h hp
  exact ⟨fun z => ⟨DE_fin hJ h hF hp z, h3.1 z⟩, h3.2⟩
def RQD (m : Mm) (q : Nat) (Λ Ψ : Nat → Nat → Int32) (n np : Nat) : Prop := 158 ≤ q ∧ np ≤ 8 ∧ mI m q 10 = nI np ∧ (∀ p, p < np → mI m (q + 10) p = Λ 9 (p * 7 + 0) ∧ mI m (q + 11) p = Λ 9 (p * 7 + 1) ∧ mI m (q + 12) p = Λ 9 (p * 7 + 2) ∧ mI m (q + 13) p = Λ 9 (p * 7 + 3) ∧ mI m (q + 14) p = Λ 9 (p * 7 + 4) ∧ mI m (q + 15) p = Λ 9 (p * 7 + 5) ∧ mI m (q + 16) p = Λ 9 (p * 7 + 6)) ∧ (∀ p, p < np → iR (Λ 9 (p * 7 + 5)) 100 ∧ iR (Λ 9 (p * 7 + 6)) 100) ∧ (∀ c, c < 24 → mI m (q + 1) c = Λ 2 c) ∧ (∀ g, g < n → mI m (q + 2) g = Λ 3 g ∧ mI m (q + 4) g = Λ 4 g ∧ mI m (q + 5) g = Λ 5 g ∧ mI m (q + 6) g = Λ 6 g) ∧ (∀ x, x < 180 → mI m (q + 7) x = Λ 7 x) ∧ (∀ g, g < 6 → mI m (q + 9) g = Λ 8 g) ∧ (∀ g, g < 6 → mI m 145 (1 + g) = Ψ 1 g) ∧ (∀ x, x < 36 → mI m 145 (7 + x) = Ψ 2 x) ∧ (n ≤ 6) ∧ mI m q 6 = nI n ∧ mI m 145 0 = Ψ 0 1 ∧ JE Λ Ψ n np
theorem D270r {d : Nat} {m : Mm} {Q : Option Value → Mm → Prop} {q n np g0 la lb : Nat} {Λ Ψ D E : Nat → Nat → Int32} {l w gi : Int32} (hd : 6 ≤ d) (hW : Wd m.2.2) (hN : NW m.2.2 q) (hq : va_rf (mR m 142 3) = .ref q) (hR : RQD m q Λ Ψ n np) (hla : la ≤ 95) (hlb : lb = la + 1) (hgi : ¬ w = -nI 1 → gi = nI g0) (hg0 : ¬ w = -nI 1 → g0 < 6) (hQ : ∀ E0 E, DE Λ np l w g0 lb (hrQ Λ Ψ n (beQ Λ np l w g0 D 8) lb) E0 → FW np E0 E → Q none (bput m 148 7 E)) : Cc d 0 0 270 [.ref 142, .int l, .int (nI la), .int w, .int gi] (bput m 148 7 E) Q := by
  obtain ⟨h158, hnp8, hnp, hpr, hGN, hso, hgd, hof, hba, hv1, hv2, hn6, hn, hv0, hJ⟩ := hR
  subst hlb
  exact D270 hd hW hN hq h158 hnp8 hnp hpr hGN hso hgd hof hba hv1 hv2 hn6 hn hv0 hJ hla hgi hQ (fun E hE => DE_init hJ hg0 hE)
theorem JE_of {m : Mm} {a n np nt : Nat} {T : NT} (hI : LRI T (lam m a)) (hS : SR (lam m a) (mI m) 20) (hnt : mI m (a + 1) 2 = nI nt) (hnt6 : nt ≤ 6) (hn : mI m (a + 1) 4 = nI n) (hn6 : n ≤ 6) (hnp : mI m (a + 1) 8 = nI np) (hnp8 : np ≤ 8) : JE (lam m a) (lam m 20) n np ∧ ∀ p, p < np → iR (lam m a 9 (p * 7 + 5)) 100 ∧ iR (lam m a 9 (p * 7 + 6)) 100 := by
  have ez2 : nv (lam m a 1 2) = nt := by rw [show lam m a 1 2 = nI nt from hnt, nv_nI (by omega)]
  have ez4 : nv (lam m a 1 4) = n := by rw [show lam m a 1 4 = nI n from hn, nv_nI (by omega)]
  have ez8 : nv (lam m a 1 8) = np := by rw [show lam m a 1 8 = nI np from hnp, nv_nI (by omega)]
  have h3 : V3 (lam m a) := hI.2.2.2.2.2.1
  have h2 : V2 (lam m a) := hI.2.2.2.2.1
  have h1 : V1 (lam m a) := hI.2.2.2.1
  unfold V3 at h3
  unfold V2 at h2
  rw [ez2, ez4, ez8] at h3
  rw [ez4] at h2
  have hs := hS.2.2.1
  rw [ez4] at hs
  refine ⟨⟨fun p hp => ?_, fun c hc _ => h1 c hc, fun g hg => (h2 g hg).2.1, fun g t hg ht _ => ?_⟩, fun p hp => ⟨(h3 p hp).2.2.2.2.2.1, (h3 p hp).2.2.2.2.2.2⟩⟩
  · have h := h3 p hp
    exact ⟨iR_m h.1 hnt6, h.2.1, iR_m h.2.2.2.1 hn6, h.2.2.2.2.1⟩
  · rcases hs (g * 6 + t) (by omega) with z | z
    · exact Or.inl z
    · exact Or.inr (iR_m z hn6)
theorem rq_of {m m8 : Mm} {a q n np nt : Nat} {T : NT} (hI : LRI T (lam m a)) (hS : SR (lam m a) (mI m) 20) (hnt : mI m (a + 1) 2 = nI nt) (hnt6 : nt ≤ 6) (hn : mI m (a + 1) 4 = nI n) (hn6 : n ≤ 6) (hnp : mI m (a + 1) 8 = nI np) (hnp8 : np ≤ 8) (hLQ : LQ (lam m a) (lam m q)) (hV : SV (mI m) 20 (mI m 145)) (h158 : 158 ≤ q) (h8 : ∀ r, r = 145 ∨ 158 ≤ r → mI m8 r = mI m r) : RQD m8 q (lam m a) (lam m 20) n np := by
  obtain ⟨hJ, hG⟩ := JE_of hI hS hnt hnt6 hn hn6 hnp hnp8
  have ez4 : nv (lam m a 1 4) = n := by rw [show lam m a 1 4 = nI n from hn, nv_nI (by omega)]
  have ez8 : nv (lam m a 1 8) = np := by rw [show lam m a 1 8 = nI np from hnp, nv_nI (by omega)]
  have q3 : Q3 (lam m a) (lam m q) := hLQ.2.2.2.1
  have q8 : Q8 (lam m a) (lam m q) := hLQ.2.2.2.2.2.2.2.2.1
  unfold Q3 at q3
  unfold Q8 at q8
  rw [ez4] at q3
  rw [ez8] at q8
  have hr : ∀ f, mI m8 (q + f) = lam m q f := fun f => h8 (q + f) (Or.inr (by omega))
  have hr0 : mI m8 q = lam m q 0 := h8 q (Or.inr h158)
  unfold RQD
  rw [h8 145 (Or.inl rfl), hr0]
  refine ⟨h158, hnp8, hLQ.1.2.2.2.2.2.2.2.2.2.2.1.trans hnp, fun p hp => ?_, hG, fun c hc => ?_, fun g hg => ?_, fun x hx => ?_, fun g hg => ?_, fun g hg => hV.2.1 g hg, fun x hx => hV.2.2.1 x hx, hn6, hLQ.1.2.2.2.2.2.2.1.trans hn, hV.1, hJ⟩
  · rw [hr 10, hr 11, hr 12, hr 13, hr 14, hr 15, hr 16]; exact q8 p hp
  · rw [hr 1]; exact hLQ.2.2.1 c hc
  · rw [hr 2, hr 4, hr 5, hr 6]; exact q3 g hg
  · rw [hr 7]; exact hLQ.2.2.2.2.2.1 x hx
  · rw [hr 9]; exact hLQ.2.2.2.2.2.2.2.1 g hg
theorem D277 {d : Nat} {m : Mm} {Q : Option Value → Mm → Prop} {q n np g0 : Nat} {Λ Ψ D E : Nat → Nat → Int32} (hd : 7 ≤ d) (hW : Wd m.2.2) (hN : NW m.2.2 q) (hq : va_rf (mR m 142 3) = .ref q) (hR : RQD m q Λ Ψ n np) (hQ : ∀ E, FE Λ np (-nI 1) (runF Λ Ψ n np (mI m q 3) (-nI 1) g0 D) E → Q none (bput m 148 7 E))  : Cc d 0 0 277 [.ref 142] (bput m 148 7 E) Q := by
  refine ent (n := 38) z277 (by decide) rfl (by decide) (Nat.le_of_ble_eq_true rfl) (fun sc => ?_)
  refine And.intro (Wdo_142 hW) (Exists.intro _ (And.intro hq ?_))
  have h158 := hR.1
  refine And.intro (NWo_0 hN) ?_
  rw [bput_hi (m := m) (x := 148) (n := 7) (D := E) (b := q) (by omega)]
  refine And.intro ⟨by omega, Nat.le_of_ble_eq_true rfl, Nat.le_refl _, Nat.le_refl _⟩ (And.intro (Wdo_142 hW) ?_)
  refine D270r (l := mI m q 3) (la := 95) (lb := 96) (w := -nI 1) (gi := -nI 1) (g0 := g0) (D := D) (by omega) hW hN hq hR (by decide) rfl (fun z => absurd rfl z) (fun z => absurd rfl z) (fun E0 E1 hx1 hx2 => ?_)
  refine And.intro ⟨rfl, rfl, Nat.le_refl _, Nat.le_refl _⟩ ?_
  exact hQ E1 (FE_of hR.2.2.2.2.2.2.2.2.2.2.2.2.2.2 hx1 hx2)
/-- the class's days as they are now -/
def CU (n np : Nat) (m : Mm) (a : Nat) (m9 : Mm) : Prop := m9.2.2 = m.2.2 ∧ (∀ r, r ≠ 0 → ¬ (112 ≤ r ∧ r < 124) → mI m9 r = mI m r) ∧ (∀ k, k ≠ 12 → mI m9 0 k = mI m 0 k) ∧ mI m9 0 12 = nI 0 ∧ ∃ D g, ∀ f, f < 12 → mI m9 (112 + f) = runF (lam m a) (lam m 20) n np (mI m a 2) (-nI 1) g D f
theorem uI_id {m : Mm} {a i : Nat} {x : Int32} (h : mI m a i = x) : uI m a i x = m := uI_self h
theorem C188 {d : Nat} {m : Mm} {Q : Option Value → Mm → Prop} {a n np : Nat} (hd : 5 ≤ d) (hW : Wd m.2.2) (ha : va_rf (mR m 0 3) = .ref a) (hL : LW m.2.2 a) (hab : a = 1 ∨ a = 93) (hJ : JE (lam m a) (lam m 20) n np) (hn : mI m (a + 1) 4 = nI n) (hn6 : n ≤ 6) (hnp : mI m (a + 1) 8 = nI np) (hnp8 : np ≤ 8) (hD : RelD (mI m) a) (hQ : ∀ m9, CU n np m a m9 → Q (some (.ref 112)) m9)  : Cc d 0 0 188 [.ref 0] m Q := by
  refine ent (n := 62) z188 (by decide) rfl (by decide) (Nat.le_of_ble_eq_true rfl) (fun sc => ?_)
  refine And.intro (Wdo_0 hW) ?_
  refine And.intro (fun cz2 => ?_) (fun cz2 => ?_)
  · -- 2 taken: mI m 0 12 = 0
    refine And.intro (Wdo_0 hW) (Exists.intro _ (And.intro (Wdr_0_7 hW) ?_))
    refine And.intro ⟨rfl, Nat.le_refl _, Nat.le_refl _⟩ ?_
    refine hQ m ⟨rfl, fun _ _ _ => rfl, fun _ _ => rfl, cz2, ?_⟩
    rcases hD with z9 | ⟨-, D, g, hDg⟩
    · rw [z9] at cz2
      exact absurd cz2 (by decide)
    · refine ⟨D, g, fun f hf => ?_⟩
      rw [hDg f hf, hn, hnp, nv_nI (by omega), nv_nI (by omega)]
      rfl
  · -- 2 not: ¬ mI m 0 12 = 0
    refine And.intro (Wdo_0 hW) (Exists.intro _ (And.intro (Wdr_0_7 hW) ?_))
    refine And.intro (Wdo_0 hW) (Exists.intro _ (And.intro ha ?_))
    refine And.intro (Wdo_0 hW) (Exists.intro _ (And.intro (Wdr_0_4 hW) ?_))
    refine And.intro (Wdo_0 hW) (Exists.intro _ (And.intro ha ?_))
    refine And.intro (LWo_0 hL) ?_
    refine And.intro ⟨by omega, Nat.le_of_ble_eq_true rfl, Nat.le_refl _, Nat.le_refl _⟩ (And.intro (DWo_0 (Wd_D1 hW)) ?_)
    have hpp := (bput_self (m := m) (x := 112) (n := 12)).symm
    generalize (fun f => mI m (112 + f)) = DD at hpp
    rw [hpp]
    rw [show mI (bput m 112 12 DD) a 2 = mI m a 2 from by rw [bput_lo (by omega)]]
    refine D1 (x := 112) (n := n) (np := np) (g0 := 0) (a := a) (b := 20) (Wd_D1 hW) hL (Wd_S hW) (by omega) (by omega) (by omega) hJ hn hn6 hnp hnp8 (fun z => absurd rfl z) (fun z => absurd rfl z) ?_
    clear hpp
    have po : ∀ r, ¬ (112 ≤ r ∧ r < 124) → mI (bput m 112 12 (runF (lam m a) (lam m 20) n np (mI m a 2) (-nI 1) 0 DD)) r = mI m r := fun r hr => by
      rcases Nat.lt_or_ge r 112 with z9 | z9
      · exact bput_lo (by omega)
      · exact bput_hi (by omega)
    have pr : ∀ f, f < 12 → mI (bput m 112 12 (runF (lam m a) (lam m 20) n np (mI m a 2) (-nI 1) 0 DD)) (112 + f) = (runF (lam m a) (lam m 20) n np (mI m a 2) (-nI 1) 0 DD) f := fun f hf => bput_r hf
    have a22 : (bput m 112 12 (runF (lam m a) (lam m 20) n np (mI m a 2) (-nI 1) 0 DD)).2.2 = m.2.2 := bput_22
    generalize bput m 112 12 (runF (lam m a) (lam m 20) n np (mI m a 2) (-nI 1) 0 DD) = m9 at po pr a22 ⊢
    have hW0 := hW
    have hW : Wd m9.2.2 := by rw [a22]; exact hW0
    refine And.intro (Wdo_0 hW) (And.intro (Or.inl rfl) ?_)
    refine And.intro (Wdo_0 hW) (Exists.intro _ (And.intro (Wdr_0_7 hW) ?_))
    refine And.intro ⟨rfl, Nat.le_refl _, Nat.le_refl _⟩ ?_
    exact hQ _ ⟨by rw [uI_22]; exact a22, fun r h0 hr => by rw [uI_ne h0]; exact po r hr, fun k hk => by rw [uI_eq, upd_o hk, po 0 (by decide)], by rw [uI_eq, upd_e], DD, 0, fun f hf => by rw [uI_ne (by omega)]; exact pr f hf⟩
theorem ex_se {Λ Ψ D E : Nat → Nat → Int32} {n np g0 h g : Nat} {l w : Int32} (hJ : JE Λ Ψ n np) (hh : h ≤ 95) (hg : g < 6) (hD : DE Λ np l w g0 (h + 1) D E) : ∀ i, ∃ E2, DE Λ np l w g0 (h + 1) (seQ Λ Ψ D g h i) E2
  | 0 => ⟨E, hD⟩
  | i + 1 => by
    obtain ⟨E2, h2⟩ := ex_se hJ hh hg hD i
    rw [seQ_s]
    unfold seS
    by_cases e : foF (seQ Λ Ψ D g h i) g h < 8
    · rw [if_pos e]
      obtain ⟨k, -, -, -, -, -, -, -, h9⟩ := DE_ju hJ hh hg h2 e
      exact ⟨_, h9⟩
    · rw [if_neg e]
      exact ⟨E2, h2⟩
theorem ex_gd {Λ Ψ D E : Nat → Nat → Int32} {n np g0 h : Nat} {l w : Int32} (hJ : JE Λ Ψ n np) (hh : h ≤ 95) (hD : DE Λ np l w g0 (h + 1) D E) : ∀ g, g ≤ 6 → ∃ E2, DE Λ np l w g0 (h + 1) (gdQ Λ Ψ D h g) E2
  | 0, _ => ⟨E, by rw [gdQ_0]; exact hD⟩
  | g + 1, hg => by
    obtain ⟨E2, h2⟩ := ex_gd hJ hh hD g (by omega)
    rw [gdQ_s]
    unfold gdS
    by_cases e : gdQ Λ Ψ D h g 0 11 ≤ 0
    · rw [if_pos e]; exact ⟨E2, h2⟩
    · rw [if_neg e]
      by_cases ez1 : bi (inP Λ Ψ g (hm h)) = 0
      · rw [if_pos ez1]; exact ⟨E2, h2⟩
      · rw [if_neg ez1]; exact ex_se hJ hh (by omega) h2 _
theorem ex_ar {Λ Ψ D E : Nat → Nat → Int32} {n np g0 t : Nat} {l w : Int32} (hJ : JE Λ Ψ n np) (ht : t ≤ 95) (hD : ∀ x, x < 8 → DP Λ np l w g0 t D E x) : ∀ p, p ≤ 8 → ∃ E2, ∀ x, x < 8 → DP Λ np l w g0 (if x < p then t + 1 else t) D E2 x
  | 0, _ => ⟨E, fun x hx => by rw [if_neg (Nat.not_lt_zero x)]; exact hD x hx⟩
  | p + 1, hp => by
    obtain ⟨E2, h2⟩ := ex_ar hJ ht hD p (by omega)
    have hdp := h2 p (by omega)
    rw [if_neg (Nat.lt_irrefl p)] at hdp
    by_cases e : prP np w p ∧ Λ 9 (p * 7 + 4) = nI t
    · have har := DP_arr hdp e.1 e.2 (by omega) (gv := nI (beG Λ w g0 p)) rfl
      exact ⟨_, AV_s h2 har.2 (fun x hx f hf => coE_o hx hf) (fun x hx i hi => upd_o (by omega))⟩
    · exact ⟨E2, AV_s h2 (DP_wait hJ hdp e) (fun _ _ _ _ => rfl) (fun _ _ _ _ => rfl)⟩
theorem ex_hr {Λ Ψ D : Nat → Nat → Int32} {n np g0 : Nat} {l w : Int32} (hJ : JE Λ Ψ n np) (hn6 : n ≤ 6) (hg : ¬ w = -nI 1 → g0 < 6) : ∀ h, h ≤ 96 → ∃ E, DE Λ np l w g0 h (hrQ Λ Ψ n (beQ Λ np l w g0 D 8) h) E
  | 0, _ => by
    rw [hrQ_0]
    exact ⟨fun f _ => if f = 0 then -nI 1 else if f = 2 then nI 2 else if f = 3 then -nI 2 else nI 0, DE_init hJ hg (fun p _ => ⟨rfl, rfl, rfl, rfl, rfl⟩)⟩
  | h + 1, hh => by
    obtain ⟨E, hE⟩ := ex_hr (Λ := Λ) (Ψ := Ψ) (D := D) (l := l) hJ hn6 hg h (by omega)
    rw [hrQ_s, hrS_e]
    generalize hrQ Λ Ψ n (beQ Λ np l w g0 D 8) h = X at *
    obtain ⟨E1, h1⟩ := ex_ar hJ (by omega) hE.1 8 (Nat.le_refl _)
    have h19 : DE Λ np l w g0 (h + 1) X E1 := ⟨fun x hx => by have := h1 x hx; rw [if_pos hx] at this; exact this, hE.2.1, hE.2.2⟩
    obtain ⟨E2, h2⟩ := ex_gd hJ (by omega) h19 n hn6
    exact ⟨E2, DE_cq h2⟩
theorem FE_ex {Λ Ψ D : Nat → Nat → Int32} {n np g0 : Nat} {l w : Int32} (hJ : JE Λ Ψ n np) (hn6 : n ≤ 6) (hg : ¬ w = -nI 1 → g0 < 6) : ∃ E, FE Λ np w (runF Λ Ψ n np l w g0 D) E := by
  obtain ⟨E0, h0⟩ := ex_hr (Λ := Λ) (Ψ := Ψ) (D := D) (l := l) hJ hn6 hg 96 (Nat.le_refl _)
  have key : ∃ E, FW np E0 E := by
    have : ∀ i, ∃ E, FW i E0 E := fun i => by
      induction i with
      | zero => exact ⟨E0, fun _ _ => rfl, fun x hx => absurd hx (Nat.not_lt_zero _), fun _ _ => rfl⟩
      | succ i ih =>
        obtain ⟨E, hE⟩ := ih
        by_cases e : ¬ E0 0 i = -nI 1 ∧ E0 2 i = nI 2
        · exact ⟨_, FW_u hE e.1 e.2⟩
        · exact ⟨E, FW_k hE e⟩
    exact this np
  obtain ⟨E, hE⟩ := key
  exact ⟨E, FE_of hJ h0 hE⟩
theorem iR_lt0 {y : Int32} {k : Nat} (h0 : ¬ y < 0) (h : y < nI k) (hk : k < 2 ^ 31) : iR y k := by
  have ez0 : (0 : Int32).toInt = 0 := by decide
  rw [Int32.lt_iff_toInt_lt, ez0] at h0
  rw [Int32.lt_iff_toInt_lt, nI_toInt hk] at h
  refine ⟨y.toInt.toNat, by omega, ?_⟩
  apply Int32.toInt_inj.mp
  rw [nI_toInt (by omega)]
  omega
