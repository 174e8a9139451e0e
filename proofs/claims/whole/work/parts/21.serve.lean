/-! ===== serve ===== -/
def seS (Λ Ψ : Nat → Nat → Int32) (g h : Nat) : Nat → (Nat → Nat → Int32) → Nat → Nat → Int32 := fun _ D => if foF D g h < 8 then juF Λ Ψ D (foF D g h) g h else D
def seQ (Λ Ψ D : Nat → Nat → Int32) (g h i : Nat) : Nat → Nat → Int32 := fo (seS Λ Ψ g h) D i
theorem seQ_s {Λ Ψ D : Nat → Nat → Int32} {g h i : Nat} : seQ Λ Ψ D g h (i + 1) = seS Λ Ψ g h i (seQ Λ Ψ D g h i) := rfl
theorem seQ_n {Λ Ψ D : Nat → Nat → Int32} {g h i : Nat} (hn : ¬ foF (seQ Λ Ψ D g h i) g h < 8) : ∀ n, seQ Λ Ψ D g h (i + n) = seQ Λ Ψ D g h i
  | 0 => rfl
  | n + 1 => by
    rw [show i + (n + 1) = (i + n) + 1 from rfl, seQ_s, seQ_n hn n]
    unfold seS
    rw [if_neg hn]
/-- prayers that are on their way -/
def DI (np : Nat) (D : Nat → Nat → Int32) : Prop := ∀ p, p < 8 → D 1 p = nI 2 → p < np ∧ iR (D 5 p) 6 ∧ ∃ c k, D 6 p = nI c ∧ D 8 p = nI k ∧ k ≤ c + 1 ∧ c ≤ 96
theorem upd_e {f : Nat → Int32} {k : Nat} {x : Int32} : upd f k x k = x := if_pos rfl
theorem upd_o {f : Nat → Int32} {k j : Nat} {x : Int32} (h : j ≠ k) : upd f k x j = f j := if_neg h
theorem set_DI {D : Nat → Nat → Int32} {np p h : Nat} {f x : Int32} (hI : DI np D) (hf : f ≠ nI 2) : DI np (setF (waF D p h) p f x) := by
  intro q hq h1
  change upd (D 1) p f q = nI 2 at h1
  by_cases e : q = p
  · rw [e, upd_e] at h1
    exact absurd h1 hf
  · rw [upd_o e] at h1
    exact hI q hq h1
theorem com_DI {D : Nat → Nat → Int32} {np p g h c k : Nat} (hI : DI np D) (hp : p < np) (hg : g < 6) (hh : h ≤ 95) (hk : D 8 p = nI k) (hc : k ≤ c + 1) (hch : c ≤ h) : DI np (comF (waF D p h) p g (nI h + nI 1) k) := by
  intro q hq h1
  change D 1 q = nI 2 at h1
  change q < np ∧ iR (upd (D 5) p (nI g) q) 6 ∧ ∃ cz2 kz2, upd (D 6) p (nI h + nI 1) q = nI cz2 ∧ upd (D 8) p (nI k + nI 1) q = nI kz2 ∧ kz2 ≤ cz2 + 1 ∧ cz2 ≤ 96
  by_cases e : q = p
  · rw [e, upd_e, upd_e, upd_e]
    exact ⟨hp, ⟨g, hg, rfl⟩, h + 1, k + 1, nI_add h 1, nI_add k 1, by omega, by omega⟩
  · rw [upd_o e, upd_o e, upd_o e]
    exact hI q hq h1
theorem le_nI {c h : Nat} (hc : c < 2 ^ 31) (hh : h < 2 ^ 31) (z : ¬ nI h < nI c) : c ≤ h := by
  rw [nI_ltI hh hc] at z
  omega
theorem ju_DI {Λ Ψ D : Nat → Nat → Int32} {n np g h : Nat} (hJ : JE Λ Ψ n np) (hI : DI np D) (hg : g < 6) (hh : h ≤ 95) (hq : foF D g h < 8) : DI np (juF Λ Ψ D (foF D g h) g h) := by
  have h0 := stF_e (foQ_st (D := D) (g := g) (h := h) (p := 8) (Nat.le_refl _) hq)
  obtain ⟨hp, -, c, k, h6, h8, hkc, hc⟩ := hI _ hq h0.1
  have hch : c ≤ h := le_nI (by omega) (by omega) (by have := h0.2.2; change ¬ nI h < D 6 (foF D g h) at this; rw [h6] at this; exact this)
  unfold juF
  split
  · split
    · exact set_DI hI (by decide)
    · rename_i h2
      have ht := iR_e (hJ.1 _ hp).1 (by decide)
      have hgo := goF_o hJ (by omega) hg ht.2 h2
      rw [h8, nv_nI (by omega)]
      exact com_DI hI hp hgo.2 hh h8 hkc hch
  · exact set_DI hI (by decide)
theorem se_DI {Λ Ψ D : Nat → Nat → Int32} {n np g h : Nat} (hJ : JE Λ Ψ n np) (hI : DI np D) (hg : g < 6) (hh : h ≤ 95) : ∀ i, DI np (seQ Λ Ψ D g h i)
  | 0 => hI
  | i + 1 => by
    rw [seQ_s]
    unfold seS
    split
    · rename_i hq
      exact ju_DI hJ (se_DI hJ hI hg hh i) hg hh hq
    · exact se_DI hJ hI hg hh i
theorem fo_iR {D : Nat → Nat → Int32} {np g h : Nat} (hI : DI np D) (hh : h ≤ 95) (hq : foF D g h < 8) : foF D g h < np ∧ iR (D 8 (foF D g h)) 97 := by
  have h0 := stF_e (foQ_st (D := D) (g := g) (h := h) (p := 8) (Nat.le_refl _) hq)
  obtain ⟨hp, -, c, k, h6, h8, hkc, hc⟩ := hI _ hq h0.1
  have hch : c ≤ h := le_nI (by omega) (by omega) (by have := h0.2.2; change ¬ nI h < D 6 (foF D g h) at this; rw [h6] at this; exact this)
  exact ⟨hp, k, by omega, h8⟩
theorem lq7 {sc : Nat × (Nat → Int32)} {d : Nat} {m : Mm} {Q : Option Value → Mm → Prop} {x : Nat} {D : Nat → Nat → Int32} (hD : DW m.2.2 x) {a b : Nat} (hL : LW m.2.2 a) (hB : SW m.2.2 b) (hax : a + 19 ≤ x) (hbx : b + 4 ≤ x) {n np g h n1 : Nat} (hd : 3 ≤ d) (hJ : JE (lam m a) (lam m b) n np) (hI : DI np D) (hg : g < 6) (hh : h ≤ 95) (hn1 : mI m (a + 4) g = nI n1) (hn9 : n1 < 10) (hQ : Q none (bput m x 12 (seQ (lam m a) (lam m b) D g h n1)))  : ∀ (j i : Nat), i ≤ n1 → n1 + 1 ≤ i + j → Jj sc d 0 0 (mth 7) (pg P7 2).1 [some (.ref x), some (.ref a), some (.ref b), some (.int (nI g)), some (.int (nI h)), some (.int (nI i)), none] [] (bput m x 12 (seQ (lam m a) (lam m b) D g h i)) 0 0 Q := by
  intro j
  induction j with
  | zero => intro i h1 h2; omega
  | succ j ih =>
    intro i h1 h2
    refine J_w z7 (i := 2) (by decide) 74 ?_
    refine And.intro (LWo_0 hL) (Exists.intro _ (And.intro (LWr_0_7 hL) ?_))
    refine And.intro (LWi_4 hL (vi rfl (by omega))) ?_
    rw [nI_clamp (show g < 2 ^ 31 by omega)]
    rw [bput_lo (m := m) (x := x) (n := 12) (D := (seQ (lam m a) (lam m b) D g h i)) (b := (a + 4)) (by omega)]
    rw [hn1]
    refine And.intro (fun cz7 => ?_) (fun cz7 => ?_)
    · -- 7 taken: nI n1 ≤ nI i
      have kz7 : n1 ≤ i := kle (a := n1) (b := i) rfl rfl (by omega) (by omega) cz7
      refine And.intro ⟨rfl, rfl, Nat.le_refl _, Nat.le_refl _⟩ ?_
      rw [show i = n1 by omega]
      exact hQ
    · -- 7 not: ¬ nI n1 ≤ nI i
      have kz7 : i < n1 := knle (a := n1) (b := i) rfl rfl (by omega) (by omega) cz7
      refine And.intro ⟨by omega, Nat.le_of_ble_eq_true rfl, Nat.le_refl _, Nat.le_refl _⟩ (And.intro (DWo_0 hD) ?_)
      refine D8 (g := g) (h := h) hD (by omega) ?_
      refine And.intro (fun cz15 => ?_) (fun cz15 => ?_)
      · -- 15 taken: ¬ ec (foF (seQ (lam m a) (lam m b) D g h i) g h) = -nI 1
        have hq : foF (seQ (lam m a) (lam m b) D g h i) g h < 8 := Classical.byContradiction fun z => cz15 (ec_n.mpr z)
        have hI2 := se_DI hJ hI hg hh i
        rw [ec_lt hq]
        refine And.intro ⟨by omega, Nat.le_of_ble_eq_true rfl, Nat.le_refl _, Nat.le_refl _⟩ (And.intro (DWo_0 hD) ?_)
        refine D10 (p := (foF (seQ (lam m a) (lam m b) D g h i) g h)) hD hL hB hax hbx hJ (by omega) (fo_iR hI2 hh hq).1 hq hg (fo_iR hI2 hh hq).2 ?_
        show Jj sc d 0 0 (mth 7) (pg P7 2).1 [some (.ref x), some (.ref a), some (.ref b), some (.int (nI g)), some (.int (nI h)), some (.int (nI i + nI 1)), some (.int (nI ((foF (seQ (lam m a) (lam m b) D g h i) g h))))] [] (bput m x 12 (juF (lam m a) (lam m b) (seQ (lam m a) (lam m b) D g h i) ((foF (seQ (lam m a) (lam m b) D g h i) g h)) g h)) 0 0 Q
        rw [show nI i + nI 1 = nI (i + 1) from by simp only [nI_add, pk_mul]]
        refine J_wk (L' := [some (.ref x), some (.ref a), some (.ref b), some (.int (nI g)), some (.int (nI h)), some (.int (nI (i + 1))), none]) ⟨rfl, rfl, rfl, rfl, rfl, rfl, trivial⟩ ?_
        have z := ih (i + 1) (by omega) (by omega)
        rw [seQ_s] at z
        unfold seS at z
        rw [if_pos hq] at z
        exact z
      · -- 15 not: ec (foF (seQ (lam m a) (lam m b) D g h i) g h) = -nI 1
        refine And.intro ⟨rfl, rfl, Nat.le_refl _, Nat.le_refl _⟩ ?_
        have ez9 := seQ_n (i := i) (ec_n.mp cz15) (n1 - i)
        rw [show i + (n1 - i) = n1 by omega] at ez9
        rw [← ez9]
        exact hQ
theorem D7 {d : Nat} {m : Mm} {Q : Option Value → Mm → Prop} {x : Nat} {D : Nat → Nat → Int32} (hD : DW m.2.2 x) {a b : Nat} (hL : LW m.2.2 a) (hB : SW m.2.2 b) (hax : a + 19 ≤ x) (hbx : b + 4 ≤ x) {n np g h n1 : Nat} (hd : 3 ≤ d) (hJ : JE (lam m a) (lam m b) n np) (hI : DI np D) (hg : g < 6) (hh : h ≤ 95) (hn1 : mI m (a + 4) g = nI n1) (hn9 : n1 < 10) (hQ : Q none (bput m x 12 (seQ (lam m a) (lam m b) D g h n1))) : Cc d 0 0 7 [.ref x, .ref a, .ref b, .int (nI g), .int (nI h)] (bput m x 12 D) Q := by
  refine ent (n := 74) z7 (by decide) rfl (by decide) (Nat.le_of_ble_eq_true rfl) (fun sc => ?_)
  show Jj sc d 0 0 (mth 7) (pg P7 2).1 [some (.ref x), some (.ref a), some (.ref b), some (.int (nI g)), some (.int (nI h)), some (.int (nI 0)), none] [] (bput m x 12 D) 0 0 Q
  exact lq7 hD hL hB hax hbx hd hJ hI hg hh hn1 hn9 hQ (n1 + 1) 0 (Nat.zero_le _) (by omega)
