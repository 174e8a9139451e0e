theorem nI_neg2 {q : Nat} (h : q < 2 ^ 31) : nI q ≠ -nI 2 := fun e => absurd (show nI q < 0 by rw [e]; decide) (nI_pos h)
/-- who is granted, is so by a god of the land -/
def GN (n : Nat) (D : Nat → Nat → Int32) : Prop := ∀ p, p < 8 → D 1 p = nI 0 → ∃ g, g < n ∧ D 5 p = nI g
theorem GN_r {n : Nat} {D D2 : Nat → Nat → Int32} (h : GN n D) (h1 : D2 1 = D 1) (h5 : D2 5 = D 5) : GN n D2 := by
  unfold GN
  rw [h1, h5]
  exact h
theorem ju_GN {Λ Ψ D : Nat → Nat → Int32} {n g h : Nat} (hG : GN n D) (hg : g < n) (hq : foF D g h < 8) : GN n (juF Λ Ψ D (foF D g h) g h) := by
  have h0 := stF_e (foQ_st (D := D) (g := g) (h := h) (p := 8) (Nat.le_refl _) hq)
  have ez1 : D 1 (foF D g h) = nI 2 := h0.1
  have ez5 : D 5 (foF D g h) = nI g := h0.2.1
  generalize foF D g h = p at *
  unfold juF
  intro x hx
  have s1 : ∀ f y : Int32, setF (waF D p h) p f y 1 x = upd (D 1) p f x := fun f y => rfl
  have s5 : ∀ f y : Int32, setF (waF D p h) p f y 5 x = D 5 x := fun f y => rfl
  split
  · split
    · rw [s1, s5]
      by_cases e : x = p
      · rw [e, upd_e]; exact fun z => absurd z (by decide)
      · rw [upd_o e]; exact hG x hx
    · show D 1 x = nI 0 → ∃ g1, g1 < n ∧ upd (D 5) p _ x = nI g1
      by_cases e : x = p
      · rw [e, ez1]; exact fun z => absurd z (by decide)
      · rw [upd_o e]; exact hG x hx
  · rw [s1, s5]
    by_cases e : x = p
    · rw [e, ez5]; exact fun _ => ⟨g, hg, rfl⟩
    · rw [upd_o e]; exact hG x hx
theorem se_GN {Λ Ψ D : Nat → Nat → Int32} {n g h : Nat} (hG : GN n D) (hg : g < n) : ∀ i, GN n (seQ Λ Ψ D g h i)
  | 0 => hG
  | i + 1 => by
    rw [seQ_s]
    unfold seS
    split
    · rename_i hq
      exact ju_GN (se_GN hG hg i) hg hq
    · exact se_GN hG hg i
theorem gd_GN {Λ Ψ D : Nat → Nat → Int32} {n h : Nat} (hG : GN n D) : ∀ g, g ≤ n → GN n (gdQ Λ Ψ D h g)
  | 0, _ => by rw [gdQ_0]; exact hG
  | g + 1, hg => by
    have ih := gd_GN (Λ := Λ) (Ψ := Ψ) (h := h) hG g (by omega)
    rw [gdQ_s]
    unfold gdS
    split
    · exact ih
    · split
      · exact ih
      · exact se_GN ih (by omega) _
theorem hr_GN {Λ Ψ D : Nat → Nat → Int32} {n : Nat} (hG : GN n D) : ∀ h, GN n (hrQ Λ Ψ n D h)
  | 0 => by rw [hrQ_0]; exact hG
  | h + 1 => by
    rw [hrQ_s, hrS_e]
    exact GN_r (gd_GN (hr_GN hG h) n (Nat.le_refl _)) (cqF_r (by decide)) (cqF_r (by decide))
theorem run_GN {Λ Ψ D : Nat → Nat → Int32} {n np g0 : Nat} {l w : Int32} (hJ : JE Λ Ψ n np) (hg : ¬ w = -nI 1 → g0 < 6) : GN n (runF Λ Ψ n np l w g0 D) := by
  have e : runF Λ Ψ n np l w g0 D = wfQ (hrQ Λ Ψ n (beQ Λ np l w g0 D 8) 96) 8 := rfl
  rw [e]
  refine GN_r (hr_GN ?_ 96) (wfQ_r (by decide) 8) (wfQ_r (by decide) 8)
  have hb := (be_BI (D := D) (l := l) hJ hg 8 (Nat.le_refl _)).1
  intro p hp h1
  by_cases z : prP np w p
  · have := ((hb p hp).1 z).1.1
    exact absurd (h1.symm.trans this) (by decide)
  · have := ((hb p hp).2 z).1
    exact absurd (h1.symm.trans this) (by decide)
def gyS (fat at_ : Nat → Int32) (gs : Int32) : Nat → Int32 → Int32 := fun p y => if fat p = 0 ∧ bq gs (at_ p) then y ||| nI 1 <<< (nI p &&& 31) else y
def gyQ (fat at_ : Nat → Int32) (gs : Int32) (p : Nat) : Int32 := fo (gyS fat at_ gs) (nI 0) p
theorem gyQ_s {fat at_ : Nat → Int32} {gs : Int32} {p : Nat} : gyQ fat at_ gs (p + 1) = if fat p = 0 ∧ bq gs (at_ p) then gyQ fat at_ gs p ||| nI 1 <<< (nI p &&& 31) else gyQ fat at_ gs p := fo_s
theorem bq_gy {fat at_ : Nat → Int32} {gs : Int32} {g : Nat} (hg : g < 32) : ∀ n, n ≤ 32 → (bq (gyQ fat at_ gs n) (nI g) ↔ g < n ∧ fat g = 0 ∧ bq gs (at_ g))
  | 0, _ => ⟨fun z => absurd z (bq_0 g hg), fun z => absurd z.1 (Nat.not_lt_zero _)⟩
  | n + 1, hn => by
    have ih := bq_gy (fat := fat) (at_ := at_) (gs := gs) hg n (by omega)
    rw [gyQ_s]
    by_cases z : fat n = 0 ∧ bq gs (at_ n)
    · rw [if_pos z, bq_or hg, ih, bq_1 n (by omega) g hg]
      refine ⟨fun y => y.elim (fun y => ⟨by omega, y.2⟩) (fun y => ⟨by omega, by rw [y]; exact z⟩), fun y => ?_⟩
      by_cases e : g = n
      · exact Or.inr e
      · exact Or.inl ⟨by omega, y.2⟩
    · rw [if_neg z, ih]
      refine ⟨fun y => ⟨by omega, y.2⟩, fun y => ⟨?_, y.2⟩⟩
      by_cases e : g = n
      · rw [e] at y; exact absurd y.2 z
      · omega
theorem bq_gb {fat : Nat → Int32} {g : Nat} (hg : g < 32) : ∀ n, n ≤ 32 → (bq (gbQ fat n) (nI g) ↔ g < n ∧ fat g = 0)
  | 0, _ => ⟨fun z => absurd z (bq_0 g hg), fun z => absurd z.1 (Nat.not_lt_zero _)⟩
  | n + 1, hn => by
    have ih := bq_gb (fat := fat) hg n (by omega)
    rw [show gbQ fat (n + 1) = if fat n = 0 then gbQ fat n ||| nI 1 <<< (nI n &&& 31) else gbQ fat n from fo_s]
    by_cases z : fat n = 0
    · rw [if_pos z, bq_or hg, ih, bq_1 n (by omega) g hg]
      refine ⟨fun y => y.elim (fun y => ⟨by omega, y.2⟩) (fun y => ⟨by omega, by rw [y]; exact z⟩), fun y => ?_⟩
      by_cases e : g = n
      · exact Or.inr e
      · exact Or.inl ⟨by omega, y.2⟩
    · rw [if_neg z, ih]
      refine ⟨fun y => ⟨by omega, y.2⟩, fun y => ⟨?_, y.2⟩⟩
      by_cases e : g = n
      · rw [e] at y; exact absurd y.2 z
      · omega
theorem bq_no {at_ : Nat → Int32} {gs gr : Int32} {g : Nat} (hg : g < 32) : ∀ n, n ≤ 32 → (bq (noQ at_ gs gr n) (nI g) ↔ bq gr (nI g) ∧ ¬ (g < n ∧ bq gs (at_ g)))
  | 0, _ => ⟨fun z => ⟨z, fun y => absurd y.1 (Nat.not_lt_zero _)⟩, fun z => z.1⟩
  | n + 1, hn => by
    have ih := bq_no (at_ := at_) (gs := gs) (gr := gr) hg n (by omega)
    rw [show noQ at_ gs gr (n + 1) = if bq gs (at_ n) then noQ at_ gs gr n &&& (nI 1 <<< (nI n &&& 31) ^^^ -nI 1) else noQ at_ gs gr n from fo_s]
    by_cases z : bq gs (at_ n)
    · rw [if_pos z, bq_and hg, bq_not hg, ih, bq_1 n (by omega) g hg]
      refine ⟨fun y => ⟨y.1.1, fun x => ?_⟩, fun y => ⟨⟨y.1, fun x => y.2 ⟨by omega, x.2⟩⟩, fun x => y.2 ⟨by omega, by rw [x]; exact z⟩⟩⟩
      exact y.1.2 ⟨by omega, x.2⟩
    · rw [if_neg z, ih]
      refine ⟨fun y => ⟨y.1, fun x => ?_⟩, fun y => ⟨y.1, fun x => y.2 ⟨by omega, x.2⟩⟩⟩
      by_cases e : g = n
      · rw [e] at x; exact z x.2
      · exact y.2 ⟨by omega, x.2⟩
theorem bq_al {n g : Nat} (hn : n ≤ 6) (hg : g < n) : bq (nI (2 ^ n - 1)) (nI g) := by
  have h := (bq_a n (by omega) g (by omega)).mpr hg
  rw [(sh_n n hn).1, pk_sub (sh_n n hn).2.1] at h
  exact h
theorem of_e {Λ D E : Nat → Nat → Int32} {n np s : Nat} (hn : n ≤ 6) (hnp : np ≤ 8) (hF : FE Λ np (-nI 1) D E) (hG : GN n D) : gyQ (E 2) (E 0) (nI (2 ^ n - 1) &&& (nI s ^^^ -nI 1)) np = noQ (D 5) (nI s) (gbQ (D 1) 8) np := bq_ext fun g hg => by
  rw [bq_gy hg np (by omega), bq_no hg np (by omega), bq_gb hg 8 (by decide)]
  by_cases h : g < np
  · have hf := ((hF g (by omega)).1 ⟨h, Or.inl rfl⟩).1
    rw [hf.2.2.1, hf.1]
    refine ⟨fun z => ?_, fun z => ?_⟩
    · obtain ⟨x, hx, ex⟩ := hG g (by omega) z.2.1
      have y := z.2.2
      rw [ex] at y ⊢
      rw [bq_and (by omega), bq_not (by omega)] at y
      exact ⟨⟨by omega, z.2.1⟩, fun w => y.2 w.2⟩
    · obtain ⟨x, hx, ex⟩ := hG g (by omega) z.1.2
      have y := z.2
      rw [ex] at y ⊢
      rw [bq_and (by omega), bq_not (by omega)]
      exact ⟨h, z.1.2, bq_al hn hx, fun w => y ⟨h, w⟩⟩
  · refine ⟨fun z => absurd z.1 h, fun z => ?_⟩
    have := ((hF g z.1.1).2 (fun y => h y.1)).1
    exact absurd (this.symm.trans z.1.2) (by decide)
theorem tg_e {Λ D E : Nat → Nat → Int32} {n np : Nat} (hn : n ≤ 6) (hnp : np ≤ 8) (hF : FE Λ np (-nI 1) D E) (hG : GN n D) : gyQ (E 2) (E 0) (nI (2 ^ n - 1)) np = gbQ (D 1) 8 := bq_ext fun g hg => by
  rw [bq_gy hg np (by omega), bq_gb hg 8 (by decide)]
  by_cases h : g < np
  · have hf := ((hF g (by omega)).1 ⟨h, Or.inl rfl⟩).1
    rw [hf.2.2.1, hf.1]
    refine ⟨fun z => ⟨by omega, z.2.1⟩, fun z => ?_⟩
    obtain ⟨x, hx, ex⟩ := hG g (by omega) z.2
    rw [ex]
    exact ⟨h, z.2, bq_al hn hx⟩
  · refine ⟨fun z => absurd z.1 h, fun z => ?_⟩
    have := ((hF g z.1).2 (fun y => h y.1)).1
    exact absurd (this.symm.trans z.2) (by decide)
theorem al_e {Λ D E : Nat → Nat → Int32} {n np : Nat} {cls : Nat → Int32} (hn : n ≤ 6) (hnp : np ≤ 8) (hF : FE Λ np (-nI 1) D E) (hG : GN n D) : peP cls np (noQ (D 5) (nI (2 ^ n - 1)) (gbQ (D 1) 8) np) := fun p hp hb => by
  rw [bq_no (by omega) np (by omega), bq_gb (by omega) 8 (by decide)] at hb
  obtain ⟨x, hx, ex⟩ := hG p (by omega) hb.1.2
  exact absurd ⟨hp, by rw [ex]; exact bq_al hn hx⟩ hb.2
theorem peP_c {f g : Nat → Int32} {np : Nat} (h : ∀ p, p < np → f p = g p) : peP f np = peP g np := funext fun x => propext ⟨fun z p hp hb => by rw [← h p hp]; exact z p hp hb, fun z p hp hb => by rw [h p hp]; exact z p hp hb⟩
noncomputable def ofS (P : Nat → Prop) : Nat → Int32 → Int32 := fun s y => if bcF (nI s) < bcF y then (if bi (P s) = 0 then y else nI s) else y
noncomputable def ofQ (P : Nat → Prop) (n s : Nat) : Int32 := fo (ofS P) (nI (2 ^ n - 1)) s
theorem ofQ_s {P : Nat → Prop} {n s : Nat} : ofQ P n (s + 1) = ofS P s (ofQ P n s) := fo_s
theorem tb_l : ∀ n, n < 7 → ∀ s, s < 64 → s + 1 < 2 ^ n → bcF (nI s) < bcF (nI (2 ^ n - 1)) := by decide +kernel
theorem of_fh {P R : Nat → Prop} {n : Nat} (hn : n ≤ 6) (hPR : ∀ s, s < 2 ^ n → (P s ↔ R s)) : ∀ s, s < 2 ^ n → (∃ x, x < s ∧ fhQ R s = nI x ∧ ofQ P n s = nI x) ∨ (fhQ R s = -nI 2 ∧ ofQ P n s = nI (2 ^ n - 1))
  | 0, _ => Or.inr ⟨rfl, rfl⟩
  | s + 1, hs => by
    have h64 := (sh_n n hn).2.2
    rw [fhQ_s, ofQ_s]
    unfold fhS ofS
    rw [bi_c (hPR s (by omega))]
    rcases of_fh hn hPR s (by omega) with ⟨x, h1, h2, h3⟩ | ⟨h2, h3⟩
    · rw [h2, h3]
      by_cases z : bcF (nI s) < bcF (nI x)
      · rw [if_pos z, if_pos (Or.inr z)]
        split
        · exact Or.inl ⟨x, by omega, rfl, rfl⟩
        · exact Or.inl ⟨s, by omega, rfl, rfl⟩
      · rw [if_neg z, if_neg (fun y => y.elim (fun y => nI_neg2 (by omega) y) z)]
        exact Or.inl ⟨x, by omega, rfl, rfl⟩
    · rw [h2, h3, if_pos (Or.inl rfl), if_pos (tb_l n (by omega) s (by omega) hs)]
      split
      · exact Or.inr ⟨rfl, rfl⟩
      · exact Or.inl ⟨s, by omega, rfl, rfl⟩
theorem of_fin {P R : Nat → Prop} {n : Nat} (hn : n ≤ 6) (hPR : ∀ s, s < 2 ^ n → (P s ↔ R s)) (hal : R (2 ^ n - 1)) : ofQ P n (2 ^ n) = fhQ R (2 ^ n) := by
  have h64 := (sh_n n hn).2
  have irr : ∀ x : Int32, ¬ x < x := fun x => by rw [Int32.lt_iff_toInt_lt]; omega
  obtain ⟨k, hk⟩ : ∃ k, 2 ^ n = k + 1 := ⟨2 ^ n - 1, by omega⟩
  have h := of_fh hn hPR k (by omega)
  have ek : 2 ^ n - 1 = k := by omega
  have hb := bi_c (hPR k (by omega))
  rw [ek] at hal
  have hq : ofQ P n (k + 1) = fhQ R (k + 1) := by
    rw [fhQ_s, ofQ_s]
    unfold fhS ofS
    rw [hb, bi_t hal]
    rcases h with ⟨x, h1, h2, h3⟩ | ⟨h2, h3⟩
    · have ht := tb_l n (by omega) x (by omega) (by omega)
      rw [ek] at ht
      have hno : ¬ bcF (nI k) < bcF (nI x) := fun z => by
        rw [Int32.lt_iff_toInt_lt] at z ht
        omega
      rw [h2, h3, if_neg hno, if_neg (fun y => y.elim (fun y => nI_neg2 (by omega) y) hno)]
    · rw [h2, h3, ek, if_neg (irr _), if_pos (Or.inl rfl), if_neg (by decide)]
  rw [hk]
  exact hq
theorem lpe {sc : Nat × (Nat → Int32)} {d : Nat} {m : Mm} {Q : Option Value → Mm → Prop} {q np : Nat} (hd : 2 ≤ d) (hW : Wd m.2.2) (hN : NW m.2.2 q) (hq : va_rf (mR m 142 3) = .ref q) (h158 : 158 ≤ q) (hnp8 : np ≤ 8) (hnp : mI m q 10 = nI np) {x : Int32} (hQ : Q (some (.int (bi (∀ p1, p1 < np → bq x (nI p1) → mI m (q + 17) p1 &&& x = 0)))) m)  : ∀ (j p : Nat), p ≤ np → np + 1 ≤ p + j → (∀ p1, p1 < p → bq x (nI p1) → mI m (q + 17) p1 &&& x = 0) → Jj sc d 0 0 (mth 292) (pg P292 2).1 [some (.ref 142), some (.int x), some (.int (nI p))] [] m 0 0 Q := by
  intro j
  induction j with
  | zero => intro p h1 h2 hall; omega
  | succ j ih =>
    intro p h1 h2 hall
    refine J_w z292 (i := 2) (by decide) 70 ?_
    refine And.intro (Wdo_142 hW) (Exists.intro _ (And.intro hq ?_))
    refine And.intro (NWo_0 hN) ?_
    rw [hnp]
    refine And.intro (fun cz6 => ?_) (fun cz6 => ?_)
    · -- 6 taken: nI np ≤ nI p
      have kz6 : np ≤ p := kle (a := np) (b := p) rfl rfl (by omega) (by omega) cz6
      refine And.intro ⟨rfl, Or.inr rfl, Nat.le_refl _, Nat.le_refl _⟩ ?_
      rw [show p = np by omega] at hall
      rw [bi_t hall] at hQ; exact hQ
    · -- 6 not: ¬ nI np ≤ nI p
      have kz6 : p < np := knle (a := np) (b := p) rfl rfl (by omega) (by omega) cz6
      refine And.intro ⟨by omega, Nat.le_of_ble_eq_true rfl, Nat.le_refl _, Nat.le_refl _⟩ ?_
      refine C205 ?_
      refine And.intro (fun cz10 => ?_) (fun cz10 => ?_)
      · -- 10 taken: bi (bq x (nI p)) = 0
        show Jj sc d 0 0 (mth 292) (pg P292 2).1 [some (.ref 142), some (.int x), some (.int (nI p + nI 1))] [] m 0 0 Q
        rw [show nI p + nI 1 = nI (p + 1) from by simp only [nI_add, pk_mul]]
        have hall2 : ∀ p1, p1 < p + 1 → bq x (nI p1) → mI m (q + 17) p1 &&& x = 0 := by
          intro v9 h9
          rcases Nat.lt_or_ge v9 p with q9 | q9
          · exact hall v9 q9
          · have ez9 : v9 = p := by omega
            rw [ez9]
            exact fun z => absurd z (bi_eq0.mp cz10)
        exact ih (p + 1) (by omega) (by omega) hall2
      · -- 10 not: ¬ bi (bq x (nI p)) = 0
        refine And.intro (Wdo_142 hW) (Exists.intro _ (And.intro hq ?_))
        refine And.intro (NWo_0 hN) (Exists.intro _ (And.intro (NWr_0_33 hN) ?_))
        refine And.intro (NWi_17 hN (vi rfl (by omega))) ?_
        rw [nI_clamp (show p < 2 ^ 31 by omega)]
        refine And.intro (fun cz18 => ?_) (fun cz18 => ?_)
        · -- 18 taken: (mI m (q + 17) p) &&& x = 0
          show Jj sc d 0 0 (mth 292) (pg P292 2).1 [some (.ref 142), some (.int x), some (.int (nI p + nI 1))] [] m 0 0 Q
          rw [show nI p + nI 1 = nI (p + 1) from by simp only [nI_add, pk_mul]]
          have hall2 : ∀ p1, p1 < p + 1 → bq x (nI p1) → mI m (q + 17) p1 &&& x = 0 := by
            intro v9 h9
            rcases Nat.lt_or_ge v9 p with q9 | q9
            · exact hall v9 q9
            · have ez9 : v9 = p := by omega
              rw [ez9]
              exact fun _ => cz18
          exact ih (p + 1) (by omega) (by omega) hall2
        · -- 18 not: ¬ (mI m (q + 17) p) &&& x = 0
          refine And.intro ⟨rfl, Or.inl rfl, Nat.le_refl _, Nat.le_refl _⟩ ?_
          rw [bi_f (fun z => cz18 (z p (by omega) (bi_ne0.mp cz10)))] at hQ; exact hQ
theorem C292 {d : Nat} {m : Mm} {Q : Option Value → Mm → Prop} {q np : Nat} (hd : 2 ≤ d) (hW : Wd m.2.2) (hN : NW m.2.2 q) (hq : va_rf (mR m 142 3) = .ref q) (h158 : 158 ≤ q) (hnp8 : np ≤ 8) (hnp : mI m q 10 = nI np) {x : Int32} (hQ : Q (some (.int (bi (∀ p1, p1 < np → bq x (nI p1) → mI m (q + 17) p1 &&& x = 0)))) m)  : Cc d 0 0 292 [.ref 142, .int x] m Q := by
  refine ent (n := 70) z292 (by decide) rfl (by decide) (Nat.le_of_ble_eq_true rfl) (fun sc => ?_)
  show Jj sc d 0 0 (mth 292) (pg P292 2).1 [some (.ref 142), some (.int x), some (.int (nI 0))] [] m 0 0 Q
  exact lpe (by omega) hW hN hq h158 hnp8 hnp hQ (np + 1) 0 (Nat.zero_le _) (by omega) (fun _ h => absurd h (by omega))
theorem lgy {sc : Nat × (Nat → Int32)} {d : Nat} {m : Mm} {Q : Option Value → Mm → Prop} {q np : Nat} (hd : 2 ≤ d) (hW : Wd m.2.2) (hN : NW m.2.2 q) (hq : va_rf (mR m 142 3) = .ref q) (h158 : 158 ≤ q) (hnp8 : np ≤ 8) (hnp : mI m q 10 = nI np) {gs : Int32} (hQ : Q (some (.int (gyQ (mI m 150) (mI m 148) gs np))) m)  : ∀ (j p : Nat), p ≤ np → np + 1 ≤ p + j → Jj sc d 0 0 (mth 293) (pg P293 4).1 [some (.ref 142), some (.int gs), some (.int (gyQ (mI m 150) (mI m 148) gs p)), some (.int (nI p))] [] m 0 0 Q := by
  intro j
  induction j with
  | zero => intro p h1 h2; omega
  | succ j ih =>
    intro p h1 h2
    refine J_w z293 (i := 4) (by decide) 86 ?_
    refine And.intro (Wdo_142 hW) (Exists.intro _ (And.intro hq ?_))
    refine And.intro (NWo_0 hN) ?_
    rw [hnp]
    refine And.intro (fun cz8 => ?_) (fun cz8 => ?_)
    · -- 8 taken: nI np ≤ nI p
      have kz8 : np ≤ p := kle (a := np) (b := p) rfl rfl (by omega) (by omega) cz8
      refine And.intro ⟨rfl, trivial, Nat.le_refl _, Nat.le_refl _⟩ ?_
      rw [show p = np by omega]
      exact hQ
    · -- 8 not: ¬ nI np ≤ nI p
      have kz8 : p < np := knle (a := np) (b := p) rfl rfl (by omega) (by omega) cz8
      refine And.intro (Wdo_142 hW) (Exists.intro _ (And.intro (Wdr_142_25 hW) ?_))
      refine And.intro (Wdi_150 hW (vi rfl (by omega))) ?_
      rw [nI_clamp (show p < 2 ^ 31 by omega)]
      refine And.intro (fun cz14 => ?_) (fun cz14 => ?_)
      · -- 14 taken: ¬ mI m 150 p = 0
        show Jj sc d 0 0 (mth 293) (pg P293 4).1 [some (.ref 142), some (.int gs), some (.int ((gyQ (mI m 150) (mI m 148) gs p) ||| nI 0)), some (.int (nI p + nI 1))] [] m 0 0 Q
        rw [show nI p + nI 1 = nI (p + 1) from by simp only [nI_add, pk_mul]]
        have w9 := ih (p + 1) (by omega) (by omega)
        rw [gyQ_s, if_neg (fun z => cz14 z.1)] at w9
        rw [or_z]
        exact w9
      · -- 14 not: mI m 150 p = 0
        refine And.intro (Wdo_142 hW) (Exists.intro _ (And.intro (Wdr_142_23 hW) ?_))
        refine And.intro (Wdi_148 hW (vi rfl (by omega))) ?_
        rw [nI_clamp (show p < 2 ^ 31 by omega)]
        refine And.intro ⟨by omega, Nat.le_of_ble_eq_true rfl, Nat.le_refl _, Nat.le_refl _⟩ ?_
        refine C205 ?_
        refine And.intro (fun cz21 => ?_) (fun cz21 => ?_)
        · -- 21 taken: bi (bq gs (mI m 148 p)) = 0
          show Jj sc d 0 0 (mth 293) (pg P293 4).1 [some (.ref 142), some (.int gs), some (.int ((gyQ (mI m 150) (mI m 148) gs p) ||| nI 0)), some (.int (nI p + nI 1))] [] m 0 0 Q
          rw [show nI p + nI 1 = nI (p + 1) from by simp only [nI_add, pk_mul]]
          have w9 := ih (p + 1) (by omega) (by omega)
          rw [gyQ_s, if_neg (fun z => bi_eq0.mp cz21 z.2)] at w9
          rw [or_z]
          exact w9
        · -- 21 not: ¬ bi (bq gs (mI m 148 p)) = 0
          show Jj sc d 0 0 (mth 293) (pg P293 4).1 [some (.ref 142), some (.int gs), some (.int ((gyQ (mI m 150) (mI m 148) gs p) ||| (nI 1 <<< (nI p &&& 31)))), some (.int (nI p + nI 1))] [] m 0 0 Q
          rw [show nI p + nI 1 = nI (p + 1) from by simp only [nI_add, pk_mul]]
          have w9 := ih (p + 1) (by omega) (by omega)
          rw [gyQ_s, if_pos ⟨cz14, bi_ne0.mp cz21⟩] at w9
          exact w9
theorem C293 {d : Nat} {m : Mm} {Q : Option Value → Mm → Prop} {q np : Nat} (hd : 2 ≤ d) (hW : Wd m.2.2) (hN : NW m.2.2 q) (hq : va_rf (mR m 142 3) = .ref q) (h158 : 158 ≤ q) (hnp8 : np ≤ 8) (hnp : mI m q 10 = nI np) {gs : Int32} (hQ : Q (some (.int (gyQ (mI m 150) (mI m 148) gs np))) m)  : Cc d 0 0 293 [.ref 142, .int gs] m Q := by
  refine ent (n := 86) z293 (by decide) rfl (by decide) (Nat.le_of_ble_eq_true rfl) (fun sc => ?_)
  show Jj sc d 0 0 (mth 293) (pg P293 4).1 [some (.ref 142), some (.int gs), some (.int (nI 0)), some (.int (nI 0))] [] m 0 0 Q
  exact lgy (by omega) hW hN hq h158 hnp8 hnp hQ (np + 1) 0 (Nat.zero_le _) (by omega)
theorem sh_8 : ∀ n, n ≤ 8 → nI 1 <<< (nI n &&& 31) = nI (2 ^ n) ∧ 1 ≤ 2 ^ n ∧ 2 ^ n ≤ 256 := by
  have h : ∀ n, n < 9 → nI 1 <<< (nI n &&& 31) = nI (2 ^ n) ∧ 1 ≤ 2 ^ n ∧ 2 ^ n ≤ 256 := by decide +kernel
  exact fun n hn => h n (by omega)
theorem ltg {sc : Nat × (Nat → Int32)} {d : Nat} {m : Mm} {Q : Option Value → Mm → Prop} {q np : Nat} (hd : 3 ≤ d) (hW : Wd m.2.2) (hN : NW m.2.2 q) (hq : va_rf (mR m 142 3) = .ref q) (h158 : 158 ≤ q) (hnp8 : np ≤ 8) (hnp : mI m q 10 = nI np) {gr : Int32} (hQ : Q (some (.int (mtQ (peP (mI m (q + 17)) np) gr (2 ^ np)))) (uI (uI m 142 1 (nI 0)) 142 2 (-nI 1)))  : ∀ (j s : Nat), s ≤ 2 ^ np → 2 ^ np + 1 ≤ s + j → Jj sc d 0 0 (mth 295) (pg P295 21).1 [some (.ref 142), some (.int gr), some (.int (mtQ (peP (mI m (q + 17)) np) gr s)), some (.int (nI s))] [] m 0 0 Q := by
  intro j
  induction j with
  | zero => intro s h1 h2; omega
  | succ j ih =>
    intro s h1 h2
    refine J_w z295 (i := 21) (by decide) 122 ?_
    have hsh := sh_8 np hnp8
    refine And.intro (Wdo_142 hW) (Exists.intro _ (And.intro hq ?_))
    refine And.intro (NWo_0 hN) ?_
    rw [hnp]
    refine And.intro (fun cz27 => ?_) (fun cz27 => ?_)
    · -- 27 taken: nI 1 <<< (nI np &&& 31) ≤ nI s
      rw [hsh.1] at cz27
      have kz27 : 2 ^ np ≤ s := kle (a := 2 ^ np) (b := s) rfl rfl (by omega) (by omega) cz27
      refine And.intro ⟨by omega, Nat.le_of_ble_eq_true rfl, Nat.le_refl _, Nat.le_refl _⟩ (And.intro (Wdo_142 hW) ?_)
      refine C202 hW ?_
      refine And.intro ⟨rfl, trivial, Nat.le_refl _, Nat.le_refl _⟩ ?_
      rw [show s = 2 ^ np by omega]
      exact hQ
    · -- 27 not: ¬ nI 1 <<< (nI np &&& 31) ≤ nI s
      rw [hsh.1] at cz27
      have kz27 : s < 2 ^ np := knle (a := 2 ^ np) (b := s) rfl rfl (by omega) (by omega) cz27
      refine And.intro (fun cz33 => ?_) (fun cz33 => ?_)
      · -- 33 taken: ¬ nI s &&& (gr ^^^ (-nI 1)) = 0
        show Jj sc d 0 0 (mth 295) (pg P295 21).1 [some (.ref 142), some (.int gr), some (.int (mtQ (peP (mI m (q + 17)) np) gr s)), some (.int (nI s + nI 1))] [] m 0 0 Q
        rw [show nI s + nI 1 = nI (s + 1) from by simp only [nI_add, pk_mul]]
        have w9 := ih (s + 1) (by omega) (by omega)
        rw [mtQ_s] at w9
        unfold mtS at w9
        by_cases z9 : bcF (nI s) ≤ bcF (mtQ (peP (mI m (q + 17)) np) gr s)
        · rw [if_pos z9] at w9; exact w9
        · rw [if_neg z9, if_neg cz33] at w9; exact w9
      · -- 33 not: nI s &&& (gr ^^^ (-nI 1)) = 0
        refine And.intro ⟨by omega, Nat.le_of_ble_eq_true rfl, Nat.le_refl _, Nat.le_refl _⟩ ?_
        refine C206 ?_
        refine And.intro ⟨by omega, Nat.le_of_ble_eq_true rfl, Nat.le_refl _, Nat.le_refl _⟩ ?_
        refine C206 ?_
        refine And.intro (fun cz38 => ?_) (fun cz38 => ?_)
        · -- 38 taken: bcF (nI s) ≤ bcF (mtQ (peP (mI m (q + 17)) np) gr s)
          show Jj sc d 0 0 (mth 295) (pg P295 21).1 [some (.ref 142), some (.int gr), some (.int (mtQ (peP (mI m (q + 17)) np) gr s)), some (.int (nI s + nI 1))] [] m 0 0 Q
          rw [show nI s + nI 1 = nI (s + 1) from by simp only [nI_add, pk_mul]]
          have w9 := ih (s + 1) (by omega) (by omega)
          rw [mtQ_s] at w9
          unfold mtS at w9
          rw [if_pos cz38] at w9
          exact w9
        · -- 38 not: ¬ bcF (nI s) ≤ bcF (mtQ (peP (mI m (q + 17)) np) gr s)
          refine And.intro ⟨by omega, Nat.le_of_ble_eq_true rfl, Nat.le_refl _, Nat.le_refl _⟩ (And.intro (Wdo_142 hW) ?_)
          refine C292 (x := nI s) (by omega) hW hN hq h158 hnp8 hnp ?_
          refine And.intro (fun cz42 => ?_) (fun cz42 => ?_)
          · -- 42 taken: bi (peP (mI m (q + 17)) np (nI s)) = 0
            show Jj sc d 0 0 (mth 295) (pg P295 21).1 [some (.ref 142), some (.int gr), some (.int (mtQ (peP (mI m (q + 17)) np) gr s)), some (.int (nI s + nI 1))] [] m 0 0 Q
            rw [show nI s + nI 1 = nI (s + 1) from by simp only [nI_add, pk_mul]]
            have w9 := ih (s + 1) (by omega) (by omega)
            rw [mtQ_s] at w9
            unfold mtS at w9
            rw [if_neg cz38, if_pos cz33, if_neg (bi_ne0.mpr (bi_eq0.mp cz42))] at w9
            exact w9
          · -- 42 not: ¬ bi (peP (mI m (q + 17)) np (nI s)) = 0
            show Jj sc d 0 0 (mth 295) (pg P295 21).1 [some (.ref 142), some (.int gr), some (.int (nI s)), some (.int (nI s + nI 1))] [] m 0 0 Q
            rw [show nI s + nI 1 = nI (s + 1) from by simp only [nI_add, pk_mul]]
            have w9 := ih (s + 1) (by omega) (by omega)
            rw [mtQ_s] at w9
            unfold mtS at w9
            rw [if_neg cz38, if_pos cz33, if_pos (bi_eq0.mpr (fun z => z (bi_ne0.mp cz42)))] at w9
            exact w9
theorem lof {sc : Nat × (Nat → Int32)} {d : Nat} {m : Mm} {Q : Option Value → Mm → Prop} {q np : Nat} (hd : 3 ≤ d) (hW : Wd m.2.2) (hN : NW m.2.2 q) (hq : va_rf (mR m 142 3) = .ref q) (h158 : 158 ≤ q) (hnp8 : np ≤ 8) (hnp : mI m q 10 = nI np) {n : Nat} (hn : mI m q 6 = nI n) (hn6 : n ≤ 6) (hQ : Q (some (.int (ofQ (fun s => peP (mI m (q + 17)) np (gyQ (mI m 150) (mI m 148) (nI (2 ^ n - 1) &&& (nI s ^^^ -nI 1)) np)) n (2 ^ n)))) (uI (uI m 142 1 (nI 0)) 142 2 (-nI 1)))  : ∀ (j s : Nat), s ≤ 2 ^ n → 2 ^ n + 1 ≤ s + j → Jj sc d 0 0 (mth 296) (pg P296 17).1 [some (.ref 142), some (.int (ofQ (fun s => peP (mI m (q + 17)) np (gyQ (mI m 150) (mI m 148) (nI (2 ^ n - 1) &&& (nI s ^^^ -nI 1)) np)) n s)), some (.int (nI s))] [] m 0 0 Q := by
  intro j
  induction j with
  | zero => intro s h1 h2; omega
  | succ j ih =>
    intro s h1 h2
    refine J_w z296 (i := 17) (by decide) 110 ?_
    have h64 := (sh_n n hn6).2
    refine And.intro ⟨by omega, Nat.le_of_ble_eq_true rfl, Nat.le_refl _, Nat.le_refl _⟩ (And.intro (Wdo_142 hW) ?_)
    refine C294 hW hN hq ?_
    rw [hn, (sh_n n hn6).1, pk_sub (sh_n n hn6).2.1]
    refine And.intro (fun cz20 => ?_) (fun cz20 => ?_)
    · -- 20 taken: nI ((2 ^ n - 1)) < nI s
      have kz20 : (2 ^ n - 1) < s := klt (a := (2 ^ n - 1)) (b := s) rfl rfl (by omega) (by omega) cz20
      refine And.intro ⟨by omega, Nat.le_of_ble_eq_true rfl, Nat.le_refl _, Nat.le_refl _⟩ (And.intro (Wdo_142 hW) ?_)
      refine C202 hW ?_
      refine And.intro ⟨rfl, trivial, Nat.le_refl _, Nat.le_refl _⟩ ?_
      rw [show s = 2 ^ n by omega]
      exact hQ
    · -- 20 not: ¬ nI ((2 ^ n - 1)) < nI s
      have kz20 : s ≤ (2 ^ n - 1) := knlt (a := (2 ^ n - 1)) (b := s) rfl rfl (by omega) (by omega) cz20
      refine And.intro ⟨by omega, Nat.le_of_ble_eq_true rfl, Nat.le_refl _, Nat.le_refl _⟩ ?_
      refine C206 ?_
      refine And.intro ⟨by omega, Nat.le_of_ble_eq_true rfl, Nat.le_refl _, Nat.le_refl _⟩ ?_
      refine C206 ?_
      refine And.intro (fun cz25 => ?_) (fun cz25 => ?_)
      · -- 25 taken: bcF (ofQ (fun s => peP (mI m (q + 17)) np (gyQ (mI m 150) (mI m 148) (nI (2 ^ n - 1) &&& (nI s ^^^ -nI 1)) np)) n s) ≤ bcF (nI s)
        show Jj sc d 0 0 (mth 296) (pg P296 17).1 [some (.ref 142), some (.int (ofQ (fun s => peP (mI m (q + 17)) np (gyQ (mI m 150) (mI m 148) (nI (2 ^ n - 1) &&& (nI s ^^^ -nI 1)) np)) n s)), some (.int (nI s + nI 1))] [] m 0 0 Q
        rw [show nI s + nI 1 = nI (s + 1) from by simp only [nI_add, pk_mul]]
        have w9 := ih (s + 1) (by omega) (by omega)
        rw [ofQ_s] at w9
        unfold ofS at w9
        rw [if_neg (Int32.not_lt.mpr cz25)] at w9
        exact w9
      · -- 25 not: ¬ bcF (ofQ (fun s => peP (mI m (q + 17)) np (gyQ (mI m 150) (mI m 148) (nI (2 ^ n - 1) &&& (nI s ^^^ -nI 1)) np)) n s) ≤ bcF (nI s)
        refine And.intro ⟨by omega, Nat.le_of_ble_eq_true rfl, Nat.le_refl _, Nat.le_refl _⟩ (And.intro (Wdo_142 hW) ?_)
        refine C294 hW hN hq ?_
        rw [hn, (sh_n n hn6).1, pk_sub (sh_n n hn6).2.1]
        refine And.intro ⟨by omega, Nat.le_of_ble_eq_true rfl, Nat.le_refl _, Nat.le_refl _⟩ (And.intro (Wdo_142 hW) ?_)
        refine C293 (gs := nI (2 ^ n - 1) &&& (nI s ^^^ -nI 1)) (by omega) hW hN hq h158 hnp8 hnp ?_
        refine And.intro ⟨by omega, Nat.le_of_ble_eq_true rfl, Nat.le_refl _, Nat.le_refl _⟩ (And.intro (Wdo_142 hW) ?_)
        refine C292 (x := gyQ (mI m 150) (mI m 148) (nI (2 ^ n - 1) &&& (nI s ^^^ -nI 1)) np) (by omega) hW hN hq h158 hnp8 hnp ?_
        refine And.intro (fun cz36 => ?_) (fun cz36 => ?_)
        · -- 36 taken: bi (peP (mI m (q + 17)) np (gyQ (mI m 150) (mI m 148) (nI (2 ^ n - 1) &&& (nI s ^^^ -nI 1)) np)) = 0
          show Jj sc d 0 0 (mth 296) (pg P296 17).1 [some (.ref 142), some (.int (ofQ (fun s => peP (mI m (q + 17)) np (gyQ (mI m 150) (mI m 148) (nI (2 ^ n - 1) &&& (nI s ^^^ -nI 1)) np)) n s)), some (.int (nI s + nI 1))] [] m 0 0 Q
          rw [show nI s + nI 1 = nI (s + 1) from by simp only [nI_add, pk_mul]]
          have w9 := ih (s + 1) (by omega) (by omega)
          rw [ofQ_s] at w9
          unfold ofS at w9
          rw [if_pos (Int32.not_le.mp cz25), if_pos cz36] at w9
          exact w9
        · -- 36 not: ¬ bi (peP (mI m (q + 17)) np (gyQ (mI m 150) (mI m 148) (nI (2 ^ n - 1) &&& (nI s ^^^ -nI 1)) np)) = 0
          show Jj sc d 0 0 (mth 296) (pg P296 17).1 [some (.ref 142), some (.int (nI s)), some (.int (nI s + nI 1))] [] m 0 0 Q
          rw [show nI s + nI 1 = nI (s + 1) from by simp only [nI_add, pk_mul]]
          have w9 := ih (s + 1) (by omega) (by omega)
          rw [ofQ_s] at w9
          unfold ofS at w9
          rw [if_pos (Int32.not_le.mp cz25), if_neg cz36] at w9
          exact w9
theorem P_together {d : Nat} {m : Mm} {Q : Option Value → Mm → Prop} {z : Nat} (hd : 16 ≤ d) (hR : Rel z m) (h : ∀ (r : Int32) m1, Wd m1.2.2 → (∀ Q2 : Option Value → Mm → Prop, (∀ m2, Rel z m2 → Q2 (some (.int r)) m2) → Cc d 0 0 295 [.ref 142] m1 Q2) → Q (some (.int r)) m1) : Cc d 0 0 146 [.ref 0] m Q := by
  obtain ⟨hW, hz, hS, a, b, hA, hX⟩ := id hR
  obtain ⟨hL, hLb, hab, ha, hb⟩ := RelA_L hW hA
  obtain ⟨n2r, hn2, bn2, ln2⟩ := RL_n (s := 2) (f := 5) hX.2.2.1 (by decide) (fun _ _ h => h.2.2.2.2.2.1)
  change n2r ≤ 6 at bn2
  obtain ⟨n4r, hn4, bn4, ln4⟩ := RL_n (s := 4) (f := 6) hX.2.2.1 (by decide) (fun _ _ h => h.2.2.2.2.2.2.1)
  change n4r ≤ 6 at bn4
  obtain ⟨n8r, hn8, bn8, ln8⟩ := RL_n (s := 8) (f := 10) hX.2.2.1 (by decide) (fun _ _ h => h.2.2.2.2.2.2.2.2.2.2.1)
  change n8r ≤ 8 at bn8
  obtain ⟨n10r, hn10, bn10, ln10⟩ := RL_n (s := 10) (f := 12) hX.2.2.1 (by decide) (fun _ _ h => h.2.2.2.2.2.2.2.2.2.2.2.2.1)
  change n10r ≤ 4 at bn10
  rcases RL_st hX.2.2.1 with ⟨hL0, hst0⟩ | ⟨q, hq1, hst0⟩
  · skip
    refine ent (n := 52) z146 (by decide) rfl (by decide) (Nat.le_of_ble_eq_true rfl) (fun sc => ?_)
    refine And.intro (Wdo_0 hW) (Exists.intro _ (And.intro ha ?_))
    refine And.intro ⟨by omega, Nat.le_of_ble_eq_true rfl, Nat.le_refl _, Nat.le_refl _⟩ (And.intro (LWo_0 hL) ?_)
    refine C21 hL ?_
    refine And.intro (fun cz3 => ?_) (fun cz3 => False.elim (absurd (bi_ne0.mp cz3) (hst0)))
    refine And.intro ⟨by omega, Nat.le_of_ble_eq_true rfl, Nat.le_refl _, Nat.le_refl _⟩ (And.intro (Wdo_0 hW) ?_)
    refine C176 hW ?_
    refine And.intro ⟨rfl, trivial, Nat.le_refl _, Nat.le_refl _⟩ ?_
    refine h _ _ hW (fun Q2 h2 => ?_)
    refine ent (n := 122) z295 (by decide) rfl (by decide) (Nat.le_of_ble_eq_true rfl) (fun sc2 => ?_)
    refine And.intro (Wdo_142 hW) ?_
    refine And.intro (Wdo_142 hW) (Exists.intro _ (And.intro (show va_rf (mR m 142 3) = .null by rw [hL0.1]; rfl) ?_))
    refine And.intro ⟨by omega, Nat.le_of_ble_eq_true rfl, Nat.le_refl _, Nat.le_refl _⟩ (And.intro (Wdo_142 hW) ?_)
    refine C200 (m := (uI (uI m 0 0 (nI 1)) 142 0 (nI 0))) hW ?_
    refine And.intro ⟨rfl, trivial, Nat.le_refl _, Nat.le_refl _⟩ ?_
    exact h2 _ (Rel_ans hR (by decide))
  · skip
    obtain ⟨hq, w, u, ha0, ha1, hq0, hq1w, hw6, hu4, hwu, hgr⟩ := RL_q hq1
    obtain ⟨h158, hqz, hN, h3, ⟨T, hI⟩, hst, hla, hLQ, hSR⟩ := hq1
    have hq6 : mI m q 6 = nI n4r := hLQ.1.2.2.2.2.2.2.1.trans hn4
    have hq5 : mI m q 5 = nI n2r := hLQ.1.2.2.2.2.2.1.trans hn2
    have hJEG := JE_of hI hSR hn2 (by omega) hn4 (by omega) hn8 (by omega)
    refine ent (n := 52) z146 (by decide) rfl (by decide) (Nat.le_of_ble_eq_true rfl) (fun sc => ?_)
    refine And.intro (Wdo_0 hW) (Exists.intro _ (And.intro ha ?_))
    refine And.intro ⟨by omega, Nat.le_of_ble_eq_true rfl, Nat.le_refl _, Nat.le_refl _⟩ (And.intro (LWo_0 hL) ?_)
    refine C21 hL ?_
    refine And.intro (fun cz3 => False.elim (absurd (hst0) (bi_eq0.mp cz3))) (fun cz3 => ?_)
    refine And.intro (Wdo_0 hW) (Exists.intro _ (And.intro ha ?_))
    refine And.intro ⟨by omega, Nat.le_of_ble_eq_true rfl, Nat.le_refl _, Nat.le_refl _⟩ (And.intro (Wdo_0 hW) ?_)
    refine C188 (n := n4r) (np := n8r) (by omega) hW ha hL hab hJEG.1 hn4 (by omega) hn8 (by omega) hX.2.2.2.2.1 (fun m9 hCU => ?_)
    obtain ⟨a22, po, p0k, p012, DD, gg, pr⟩ := hCU
    have hW0 := hW
    have hW : Wd m9.2.2 := by rw [a22]; exact hW0
    have hak8 : ∀ r, 158 ≤ r → mI m9 r = mI m r := fun r hr => po r (by omega) (by omega)
    have ln2 := LN_m ln2 a22 hak8
    have ln4 := LN_m ln4 a22 hak8
    have ln8 := LN_m ln8 a22 hak8
    have ln10 := LN_m ln10 a22 hak8
    have hq : va_rf (mR m9 142 3) = .ref q := by rw [show mR m9 = mR m from congrArg (fun w : WR => w.1) a22]; exact hq
    have hN : NW m9.2.2 q := by rw [a22]; exact hN
    have hL9 : LW m9.2.2 a := by rw [a22]; exact hL
    have hn89 : mI m9 (a + 1) 8 = nI n8r := by rw [po (a + 1) (by omega) (by omega)]; exact hn8
    have hn49 : mI m9 (a + 1) 4 = nI n4r := by rw [po (a + 1) (by omega) (by omega)]; exact hn4
    refine And.intro ⟨by omega, Nat.le_of_ble_eq_true rfl, Nat.le_refl _, Nat.le_refl _⟩ ?_
    refine C46 (x := 112) (np := n8r) (Wd_D1 hW) hL9 hn89 (by omega) (by omega) ?_
    refine And.intro ⟨by omega, Nat.le_of_ble_eq_true rfl, Nat.le_refl _, Nat.le_refl _⟩ (And.intro (Wdo_0 hW) ?_)
    refine C177 hW ?_
    refine And.intro ⟨rfl, trivial, Nat.le_refl _, Nat.le_refl _⟩ ?_
    refine h _ _ hW (fun Q2 h2 => ?_)
    refine ent (n := 122) z295 (by decide) rfl (by decide) (Nat.le_of_ble_eq_true rfl) (fun sc2 => ?_)
    refine And.intro (Wdo_142 hW) ?_
    refine And.intro (Wdo_142 hW) (Exists.intro _ (And.intro hq ?_))
    refine And.intro ⟨by omega, Nat.le_of_ble_eq_true rfl, Nat.le_refl _, Nat.le_refl _⟩ (And.intro (Wdo_142 hW) ?_)
    have t22 : (uI (uI m9 0 0 (nI 0)) 142 0 (nI 0)).2.2 = m.2.2 := by rw [uI_22, uI_22]; exact a22
    have tI : ∀ r, r ≠ 0 → r ≠ 142 → ¬ (112 ≤ r ∧ r < 124) → mI (uI (uI m9 0 0 (nI 0)) 142 0 (nI 0)) r = mI m r := fun r h2 h3 h4 => by rw [uI_ne h3, uI_ne h2, po r h2 h4]
    have tD : ∀ f, f < 12 → mI (uI (uI m9 0 0 (nI 0)) 142 0 (nI 0)) (112 + f) = (runF (lam m a) (lam m 20) n4r n8r (mI m a 2) (-nI 1) gg DD) f := fun f hf => by rw [uI_ne (by omega), uI_ne (by omega), pr f hf]
    have t0 : mI (uI (uI m9 0 0 (nI 0)) 142 0 (nI 0)) 0 0 = nI 0 := by rw [uI_ne (by decide), uI_eq, upd_e]
    have t0k : ∀ k, k ≠ 0 → k ≠ 12 → mI (uI (uI m9 0 0 (nI 0)) 142 0 (nI 0)) 0 k = mI m 0 k := fun k hk hk2 => by rw [uI_ne (by decide), uI_eq, upd_o hk, p0k k hk2]
    have t012 : mI (uI (uI m9 0 0 (nI 0)) 142 0 (nI 0)) 0 12 = nI 0 := by rw [uI_ne (by decide), uI_eq, upd_o (by decide), p012]
    have t142 : ∀ k, k ≠ 0 → mI (uI (uI m9 0 0 (nI 0)) 142 0 (nI 0)) 142 k = mI m 142 k := fun k hk => by rw [uI_eq, upd_o hk, uI_ne (by decide), po 142 (by decide) (by decide)]
    generalize (uI (uI m9 0 0 (nI 0)) 142 0 (nI 0)) = m8 at t22 tI tD t0 t0k t012 t142 ⊢
    have hW : Wd m8.2.2 := by rw [t22]; exact hW0
    have hN : NW m8.2.2 q := by rw [t22, ← a22]; exact hN
    have hq : va_rf (mR m8 142 3) = .ref q := by rw [show mR m8 = mR m9 from congrArg (fun w : WR => w.1) (t22.trans a22.symm)]; exact hq
    have hRQ : RQD m8 q (lam m a) (lam m 20) n4r n8r := rq_of hI hSR hn2 (by omega) hn4 (by omega) hn8 (by omega) hLQ hX.2.1 h158 (fun r hr => tI r (by omega) (by omega) (by omega))
    have hlaw : mI m8 q 3 = mI m a 2 := by rw [tI q (by omega) (by omega) (by omega)]; exact hLQ.1.2.2.2.1
    have hpp := (bput_self (m := m8) (x := 148) (n := 7)).symm
    generalize (fun f => mI m8 (148 + f)) = DE9 at hpp
    rw [hpp]
    refine D277 (g0 := gg) (D := DD) (by omega) hW hN hq hRQ (fun ER hFE => ?_)
    clear hpp
    rw [hlaw] at hFE
    have s22 : (bput m8 148 7 ER).2.2 = m8.2.2 := bput_22
    have sI : ∀ r, r < 148 ∨ 155 ≤ r → mI (bput m8 148 7 ER) r = mI m8 r := fun r hr => by
      rcases Nat.lt_or_ge r 148 with z9 | z9
      · exact bput_lo (by omega)
      · exact bput_hi (by omega)
    have sE : ∀ f, f < 7 → mI (bput m8 148 7 ER) (148 + f) = ER f := fun f hf => bput_r hf
    generalize bput m8 148 7 ER = m7 at s22 sI sE ⊢
    have hW : Wd m7.2.2 := by rw [s22]; exact hW
    have hN : NW m7.2.2 q := by rw [s22]; exact hN
    have hq : va_rf (mR m7 142 3) = .ref q := by rw [show mR m7 = mR m8 from congrArg (fun w : WR => w.1) s22]; exact hq
    skip
    have hnm : mI m7 q 10 = nI n8r := by rw [sI q (by omega), tI q (by omega) (by omega) (by omega)]; exact hLQ.1.2.2.2.2.2.2.2.2.2.2.1.trans hn8
    have hnm6 : mI m7 q 6 = nI n4r := by rw [sI q (by omega), tI q (by omega) (by omega) (by omega)]; exact hLQ.1.2.2.2.2.2.2.1.trans hn4
    have hGN := run_GN (D := DD) (l := mI m a 2) (w := -nI 1) (g0 := gg) hJEG.1 (fun z => absurd rfl z)
    have hpe : peP (mI m7 (q + 17)) n8r = peP (mI m9 (a + 10)) n8r := peP_c (fun p hp => by
      rw [sI (q + 17) (by omega), tI (q + 17) (by omega) (by omega) (by omega), po (a + 10) (by omega) (by omega)]
      exact hLQ.2.2.2.2.2.2.2.2.2.1 p (by omega))
    have s150 : mI m7 150 = ER 2 := sE 2 (by decide)
    have s148 : mI m7 148 = ER 0 := sE 0 (by decide)
    have p113 : mI m9 (112 + 1) = (runF (lam m a) (lam m 20) n4r n8r (mI m a 2) (-nI 1) gg DD) 1 := pr 1 (by decide)
    have p117 : mI m9 (112 + 5) = (runF (lam m a) (lam m 20) n4r n8r (mI m a 2) (-nI 1) gg DD) 5 := pr 5 (by decide)
    refine And.intro ⟨by omega, Nat.le_of_ble_eq_true rfl, Nat.le_refl _, Nat.le_refl _⟩ (And.intro (Wdo_142 hW) ?_)
    refine C294 (m := m7) hW hN hq ?_
    rw [hnm6, (sh_n n4r (by omega)).1, pk_sub (sh_n n4r (by omega)).2.1]
    refine And.intro ⟨by omega, Nat.le_of_ble_eq_true rfl, Nat.le_refl _, Nat.le_refl _⟩ (And.intro (Wdo_142 hW) ?_)
    refine C293 (m := m7) (gs := nI (2 ^ n4r - 1)) (by omega) hW hN hq h158 (by omega) hnm ?_
    rw [s150, s148, tg_e (by omega) (by omega) hFE hGN, ← p113]
    show Jj sc2 d 0 0 (mth 295) (pg P295 21).1 [some (.ref 142), some (.int (gbQ (mI m9 (112 + 1)) 8)), some (.int (nI 0)), some (.int (nI 0))] [] m7 0 0 Q2
    refine ltg (gr := gbQ (mI m9 (112 + 1)) 8) (by omega) hW hN hq h158 (by omega) hnm ?_ (2 ^ n8r + 1) 0 (Nat.zero_le _) (by omega)
    rw [hpe]
    have y0 : ∀ r, r ≠ 142 → mI (uI (uI m7 142 1 (nI 0)) 142 2 (-nI 1)) r = mI m7 r := fun r g => by rw [uI_ne g, uI_ne g]
    have x0 : ∀ x, x ≠ 0 → x ≠ 1 → x ≠ 2 → mI (uI (uI m7 142 1 (nI 0)) 142 2 (-nI 1)) 142 x = mI m 142 x := fun x g0 g1 g2 => by rw [uI_eq, upd_o g2, uI_eq, upd_o g1, sI 142 (by decide), t142 x g0]
    have y00 : mI (uI (uI m7 142 1 (nI 0)) 142 2 (-nI 1)) 0 0 = nI 0 := by rw [y0 0 (by decide), sI 0 (by decide), t0]
    exact h2 _ (Rel_day (g := gg) (D := DD) hW0 hz hA hX (by rw [uI_22, uI_22, s22]; exact t22) (fun r g1 g2 g3 g4 => by rw [y0 r g3, sI r (Classical.byContradiction fun z9 => g1 (by unfold scr; omega)), tI r g2 g3 (by omega)]) (fun _ => by rw [y0 140 (by decide), sI 140 (by decide), tI 140 (by decide) (by decide) (by decide)]) hn4 (by omega) hn8 (by omega) (by rw [y0 0 (by decide), sI 0 (by decide)]; exact t012) (fun f hf => by rw [y0 (112 + f) (by omega), sI (112 + f) (by omega)]; exact tD f hf) (x0 6 (by decide) (by decide) (by decide)) (x0 21 (by decide) (by decide) (by decide)) (x0 22 (by decide) (by decide) (by decide)) ⟨by rw [y00, uI_eq, upd_o (by decide), uI_eq, upd_e], by rw [x0 14 (by decide) (by decide) (by decide), y0 0 (by decide), sI 0 (by decide), t0k 1 (by decide) (by decide)]; exact hS.2.1, by rw [y00, uI_eq, upd_e, if_neg (by decide)]⟩)
theorem P_offended {d : Nat} {m : Mm} {Q : Option Value → Mm → Prop} {z : Nat} (hd : 16 ≤ d) (hR : Rel z m) (h : ∀ (r : Int32) m1, Wd m1.2.2 → (∀ Q2 : Option Value → Mm → Prop, (∀ m2, Rel z m2 → Q2 (some (.int r)) m2) → Cc d 0 0 296 [.ref 142] m1 Q2) → Q (some (.int r)) m1) : Cc d 0 0 147 [.ref 0] m Q := by
  obtain ⟨hW, hz, hS, a, b, hA, hX⟩ := id hR
  obtain ⟨hL, hLb, hab, ha, hb⟩ := RelA_L hW hA
  obtain ⟨n2r, hn2, bn2, ln2⟩ := RL_n (s := 2) (f := 5) hX.2.2.1 (by decide) (fun _ _ h => h.2.2.2.2.2.1)
  change n2r ≤ 6 at bn2
  obtain ⟨n4r, hn4, bn4, ln4⟩ := RL_n (s := 4) (f := 6) hX.2.2.1 (by decide) (fun _ _ h => h.2.2.2.2.2.2.1)
  change n4r ≤ 6 at bn4
  obtain ⟨n8r, hn8, bn8, ln8⟩ := RL_n (s := 8) (f := 10) hX.2.2.1 (by decide) (fun _ _ h => h.2.2.2.2.2.2.2.2.2.2.1)
  change n8r ≤ 8 at bn8
  obtain ⟨n10r, hn10, bn10, ln10⟩ := RL_n (s := 10) (f := 12) hX.2.2.1 (by decide) (fun _ _ h => h.2.2.2.2.2.2.2.2.2.2.2.2.1)
  change n10r ≤ 4 at bn10
  rcases RL_st hX.2.2.1 with ⟨hL0, hst0⟩ | ⟨q, hq1, hst0⟩
  · skip
    refine ent (n := 52) z147 (by decide) rfl (by decide) (Nat.le_of_ble_eq_true rfl) (fun sc => ?_)
    refine And.intro (Wdo_0 hW) (Exists.intro _ (And.intro ha ?_))
    refine And.intro ⟨by omega, Nat.le_of_ble_eq_true rfl, Nat.le_refl _, Nat.le_refl _⟩ (And.intro (LWo_0 hL) ?_)
    refine C21 hL ?_
    refine And.intro (fun cz3 => ?_) (fun cz3 => False.elim (absurd (bi_ne0.mp cz3) (hst0)))
    refine And.intro ⟨by omega, Nat.le_of_ble_eq_true rfl, Nat.le_refl _, Nat.le_refl _⟩ (And.intro (Wdo_0 hW) ?_)
    refine C176 hW ?_
    refine And.intro ⟨rfl, trivial, Nat.le_refl _, Nat.le_refl _⟩ ?_
    refine h _ _ hW (fun Q2 h2 => ?_)
    refine ent (n := 110) z296 (by decide) rfl (by decide) (Nat.le_of_ble_eq_true rfl) (fun sc2 => ?_)
    refine And.intro (Wdo_142 hW) ?_
    refine And.intro (Wdo_142 hW) (Exists.intro _ (And.intro (show va_rf (mR m 142 3) = .null by rw [hL0.1]; rfl) ?_))
    refine And.intro ⟨by omega, Nat.le_of_ble_eq_true rfl, Nat.le_refl _, Nat.le_refl _⟩ (And.intro (Wdo_142 hW) ?_)
    refine C200 (m := (uI (uI m 0 0 (nI 1)) 142 0 (nI 0))) hW ?_
    refine And.intro ⟨rfl, trivial, Nat.le_refl _, Nat.le_refl _⟩ ?_
    exact h2 _ (Rel_ans hR (by decide))
  · skip
    obtain ⟨hq, w, u, ha0, ha1, hq0, hq1w, hw6, hu4, hwu, hgr⟩ := RL_q hq1
    obtain ⟨h158, hqz, hN, h3, ⟨T, hI⟩, hst, hla, hLQ, hSR⟩ := hq1
    have hq6 : mI m q 6 = nI n4r := hLQ.1.2.2.2.2.2.2.1.trans hn4
    have hq5 : mI m q 5 = nI n2r := hLQ.1.2.2.2.2.2.1.trans hn2
    have hJEG := JE_of hI hSR hn2 (by omega) hn4 (by omega) hn8 (by omega)
    refine ent (n := 52) z147 (by decide) rfl (by decide) (Nat.le_of_ble_eq_true rfl) (fun sc => ?_)
    refine And.intro (Wdo_0 hW) (Exists.intro _ (And.intro ha ?_))
    refine And.intro ⟨by omega, Nat.le_of_ble_eq_true rfl, Nat.le_refl _, Nat.le_refl _⟩ (And.intro (LWo_0 hL) ?_)
    refine C21 hL ?_
    refine And.intro (fun cz3 => False.elim (absurd (hst0) (bi_eq0.mp cz3))) (fun cz3 => ?_)
    refine And.intro (Wdo_0 hW) (Exists.intro _ (And.intro ha ?_))
    refine And.intro ⟨by omega, Nat.le_of_ble_eq_true rfl, Nat.le_refl _, Nat.le_refl _⟩ (And.intro (Wdo_0 hW) ?_)
    refine C188 (n := n4r) (np := n8r) (by omega) hW ha hL hab hJEG.1 hn4 (by omega) hn8 (by omega) hX.2.2.2.2.1 (fun m9 hCU => ?_)
    obtain ⟨a22, po, p0k, p012, DD, gg, pr⟩ := hCU
    have hW0 := hW
    have hW : Wd m9.2.2 := by rw [a22]; exact hW0
    have hak8 : ∀ r, 158 ≤ r → mI m9 r = mI m r := fun r hr => po r (by omega) (by omega)
    have ln2 := LN_m ln2 a22 hak8
    have ln4 := LN_m ln4 a22 hak8
    have ln8 := LN_m ln8 a22 hak8
    have ln10 := LN_m ln10 a22 hak8
    have hq : va_rf (mR m9 142 3) = .ref q := by rw [show mR m9 = mR m from congrArg (fun w : WR => w.1) a22]; exact hq
    have hN : NW m9.2.2 q := by rw [a22]; exact hN
    have hL9 : LW m9.2.2 a := by rw [a22]; exact hL
    have hn89 : mI m9 (a + 1) 8 = nI n8r := by rw [po (a + 1) (by omega) (by omega)]; exact hn8
    have hn49 : mI m9 (a + 1) 4 = nI n4r := by rw [po (a + 1) (by omega) (by omega)]; exact hn4
    refine And.intro ⟨by omega, Nat.le_of_ble_eq_true rfl, Nat.le_refl _, Nat.le_refl _⟩ ?_
    refine C47 (x := 112) (np := n8r) (n := n4r) (Wd_D1 hW) hL9 hn89 (by omega) hn49 (by omega) (by omega) ?_
    refine And.intro ⟨by omega, Nat.le_of_ble_eq_true rfl, Nat.le_refl _, Nat.le_refl _⟩ (And.intro (Wdo_0 hW) ?_)
    refine C177 hW ?_
    refine And.intro ⟨rfl, trivial, Nat.le_refl _, Nat.le_refl _⟩ ?_
    refine h _ _ hW (fun Q2 h2 => ?_)
    refine ent (n := 110) z296 (by decide) rfl (by decide) (Nat.le_of_ble_eq_true rfl) (fun sc2 => ?_)
    refine And.intro (Wdo_142 hW) ?_
    refine And.intro (Wdo_142 hW) (Exists.intro _ (And.intro hq ?_))
    refine And.intro ⟨by omega, Nat.le_of_ble_eq_true rfl, Nat.le_refl _, Nat.le_refl _⟩ (And.intro (Wdo_142 hW) ?_)
    have t22 : (uI (uI m9 0 0 (nI 0)) 142 0 (nI 0)).2.2 = m.2.2 := by rw [uI_22, uI_22]; exact a22
    have tI : ∀ r, r ≠ 0 → r ≠ 142 → ¬ (112 ≤ r ∧ r < 124) → mI (uI (uI m9 0 0 (nI 0)) 142 0 (nI 0)) r = mI m r := fun r h2 h3 h4 => by rw [uI_ne h3, uI_ne h2, po r h2 h4]
    have tD : ∀ f, f < 12 → mI (uI (uI m9 0 0 (nI 0)) 142 0 (nI 0)) (112 + f) = (runF (lam m a) (lam m 20) n4r n8r (mI m a 2) (-nI 1) gg DD) f := fun f hf => by rw [uI_ne (by omega), uI_ne (by omega), pr f hf]
    have t0 : mI (uI (uI m9 0 0 (nI 0)) 142 0 (nI 0)) 0 0 = nI 0 := by rw [uI_ne (by decide), uI_eq, upd_e]
    have t0k : ∀ k, k ≠ 0 → k ≠ 12 → mI (uI (uI m9 0 0 (nI 0)) 142 0 (nI 0)) 0 k = mI m 0 k := fun k hk hk2 => by rw [uI_ne (by decide), uI_eq, upd_o hk, p0k k hk2]
    have t012 : mI (uI (uI m9 0 0 (nI 0)) 142 0 (nI 0)) 0 12 = nI 0 := by rw [uI_ne (by decide), uI_eq, upd_o (by decide), p012]
    have t142 : ∀ k, k ≠ 0 → mI (uI (uI m9 0 0 (nI 0)) 142 0 (nI 0)) 142 k = mI m 142 k := fun k hk => by rw [uI_eq, upd_o hk, uI_ne (by decide), po 142 (by decide) (by decide)]
    generalize (uI (uI m9 0 0 (nI 0)) 142 0 (nI 0)) = m8 at t22 tI tD t0 t0k t012 t142 ⊢
    have hW : Wd m8.2.2 := by rw [t22]; exact hW0
    have hN : NW m8.2.2 q := by rw [t22, ← a22]; exact hN
    have hq : va_rf (mR m8 142 3) = .ref q := by rw [show mR m8 = mR m9 from congrArg (fun w : WR => w.1) (t22.trans a22.symm)]; exact hq
    have hRQ : RQD m8 q (lam m a) (lam m 20) n4r n8r := rq_of hI hSR hn2 (by omega) hn4 (by omega) hn8 (by omega) hLQ hX.2.1 h158 (fun r hr => tI r (by omega) (by omega) (by omega))
    have hlaw : mI m8 q 3 = mI m a 2 := by rw [tI q (by omega) (by omega) (by omega)]; exact hLQ.1.2.2.2.1
    have hpp := (bput_self (m := m8) (x := 148) (n := 7)).symm
    generalize (fun f => mI m8 (148 + f)) = DE9 at hpp
    rw [hpp]
    refine D277 (g0 := gg) (D := DD) (by omega) hW hN hq hRQ (fun ER hFE => ?_)
    clear hpp
    rw [hlaw] at hFE
    have s22 : (bput m8 148 7 ER).2.2 = m8.2.2 := bput_22
    have sI : ∀ r, r < 148 ∨ 155 ≤ r → mI (bput m8 148 7 ER) r = mI m8 r := fun r hr => by
      rcases Nat.lt_or_ge r 148 with z9 | z9
      · exact bput_lo (by omega)
      · exact bput_hi (by omega)
    have sE : ∀ f, f < 7 → mI (bput m8 148 7 ER) (148 + f) = ER f := fun f hf => bput_r hf
    generalize bput m8 148 7 ER = m7 at s22 sI sE ⊢
    have hW : Wd m7.2.2 := by rw [s22]; exact hW
    have hN : NW m7.2.2 q := by rw [s22]; exact hN
    have hq : va_rf (mR m7 142 3) = .ref q := by rw [show mR m7 = mR m8 from congrArg (fun w : WR => w.1) s22]; exact hq
    skip
    have hnm : mI m7 q 10 = nI n8r := by rw [sI q (by omega), tI q (by omega) (by omega) (by omega)]; exact hLQ.1.2.2.2.2.2.2.2.2.2.2.1.trans hn8
    have hnm6 : mI m7 q 6 = nI n4r := by rw [sI q (by omega), tI q (by omega) (by omega) (by omega)]; exact hLQ.1.2.2.2.2.2.2.1.trans hn4
    have hGN := run_GN (D := DD) (l := mI m a 2) (w := -nI 1) (g0 := gg) hJEG.1 (fun z => absurd rfl z)
    have hpe : peP (mI m7 (q + 17)) n8r = peP (mI m9 (a + 10)) n8r := peP_c (fun p hp => by
      rw [sI (q + 17) (by omega), tI (q + 17) (by omega) (by omega) (by omega), po (a + 10) (by omega) (by omega)]
      exact hLQ.2.2.2.2.2.2.2.2.2.1 p (by omega))
    have s150 : mI m7 150 = ER 2 := sE 2 (by decide)
    have s148 : mI m7 148 = ER 0 := sE 0 (by decide)
    have p113 : mI m9 (112 + 1) = (runF (lam m a) (lam m 20) n4r n8r (mI m a 2) (-nI 1) gg DD) 1 := pr 1 (by decide)
    have p117 : mI m9 (112 + 5) = (runF (lam m a) (lam m 20) n4r n8r (mI m a 2) (-nI 1) gg DD) 5 := pr 5 (by decide)
    refine And.intro ⟨by omega, Nat.le_of_ble_eq_true rfl, Nat.le_refl _, Nat.le_refl _⟩ (And.intro (Wdo_142 hW) ?_)
    refine C294 (m := m7) hW hN hq ?_
    rw [hnm6, (sh_n n4r (by omega)).1, pk_sub (sh_n n4r (by omega)).2.1]
    show Jj sc2 d 0 0 (mth 296) (pg P296 17).1 [some (.ref 142), some (.int (nI ((2 ^ n4r - 1)))), some (.int (nI 0))] [] m7 0 0 Q2
    refine lof (n := n4r) (by omega) hW hN hq h158 (by omega) hnm hnm6 (by omega) ?_ (2 ^ n4r + 1) 0 (Nat.zero_le _) (by omega)
    rw [hpe, s150, s148]
    have hval : ofQ (fun s => peP (mI m9 (a + 10)) n8r (gyQ (ER 2) (ER 0) (nI (2 ^ n4r - 1) &&& (nI s ^^^ -nI 1)) n8r)) n4r (2 ^ n4r) = fhQ (fun s => peP (mI m9 (a + 10)) n8r (noQ (mI m9 (112 + 5)) (nI s) (gbQ (mI m9 (112 + 1)) 8) n8r)) (2 ^ n4r) := by
      rw [p113, p117]
      exact of_fin (by omega) (fun s hs => by rw [of_e (by omega) (by omega) hFE hGN]) (al_e (by omega) (by omega) hFE hGN)
    rw [hval]
    have y0 : ∀ r, r ≠ 142 → mI (uI (uI m7 142 1 (nI 0)) 142 2 (-nI 1)) r = mI m7 r := fun r g => by rw [uI_ne g, uI_ne g]
    have x0 : ∀ x, x ≠ 0 → x ≠ 1 → x ≠ 2 → mI (uI (uI m7 142 1 (nI 0)) 142 2 (-nI 1)) 142 x = mI m 142 x := fun x g0 g1 g2 => by rw [uI_eq, upd_o g2, uI_eq, upd_o g1, sI 142 (by decide), t142 x g0]
    have y00 : mI (uI (uI m7 142 1 (nI 0)) 142 2 (-nI 1)) 0 0 = nI 0 := by rw [y0 0 (by decide), sI 0 (by decide), t0]
    exact h2 _ (Rel_day (g := gg) (D := DD) hW0 hz hA hX (by rw [uI_22, uI_22, s22]; exact t22) (fun r g1 g2 g3 g4 => by rw [y0 r g3, sI r (Classical.byContradiction fun z9 => g1 (by unfold scr; omega)), tI r g2 g3 (by omega)]) (fun _ => by rw [y0 140 (by decide), sI 140 (by decide), tI 140 (by decide) (by decide) (by decide)]) hn4 (by omega) hn8 (by omega) (by rw [y0 0 (by decide), sI 0 (by decide)]; exact t012) (fun f hf => by rw [y0 (112 + f) (by omega), sI (112 + f) (by omega)]; exact tD f hf) (x0 6 (by decide) (by decide) (by decide)) (x0 21 (by decide) (by decide) (by decide)) (x0 22 (by decide) (by decide) (by decide)) ⟨by rw [y00, uI_eq, upd_o (by decide), uI_eq, upd_e], by rw [x0 14 (by decide) (by decide) (by decide), y0 0 (by decide), sI 0 (by decide), t0k 1 (by decide) (by decide)]; exact hS.2.1, by rw [y00, uI_eq, upd_e, if_neg (by decide)]⟩)
