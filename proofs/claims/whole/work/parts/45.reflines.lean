/-! ===== a land of the reference against a land's values ===== -/
def Q0 (Λ E : Nat → Nat → Int32) : Prop := E 0 0 = Λ 0 0 ∧ E 0 1 = Λ 0 1 ∧ E 0 2 = Λ 1 1 ∧ E 0 3 = Λ 0 2 ∧ E 0 4 = grF (Λ 2) (nv (Λ 1 1) * nv (Λ 0 0)) ∧ E 0 5 = Λ 1 2 ∧ E 0 6 = Λ 1 4 ∧ E 0 7 = Λ 1 5 ∧ E 0 8 = Λ 1 6 ∧ E 0 9 = Λ 1 7 ∧ E 0 10 = Λ 1 8 ∧ E 0 11 = Λ 1 9 ∧ E 0 12 = Λ 1 10 ∧ E 0 13 = Λ 1 11 ∧ E 0 14 = Λ 1 12
def Q1 (Λ E : Nat → Nat → Int32) : Prop := (nv (Λ 1 3) = 0 → E 0 16 = -nI 1 ∧ Λ 0 3 = nI 0) ∧ (0 < nv (Λ 1 3) → E 0 16 = Λ 0 3)
def Q2 (Λ E : Nat → Nat → Int32) : Prop := ∀ c, c < 24 → E 1 c = Λ 2 c
def Q3 (Λ E : Nat → Nat → Int32) : Prop := ∀ g, g < nv (Λ 1 4) → E 2 g = Λ 3 g ∧ E 4 g = Λ 4 g ∧ E 5 g = Λ 5 g ∧ E 6 g = Λ 6 g
def Q4 (Λ E : Nat → Nat → Int32) : Prop := ∀ g, g < 6 → E 3 g = Λ 16 g
def Q5 (Λ E : Nat → Nat → Int32) : Prop := ∀ x, x < 180 → E 7 x = Λ 7 x
def Q6 (Λ E : Nat → Nat → Int32) : Prop := ∀ x, x < 36 → E 8 x = Λ 17 x
def Q7 (Λ E : Nat → Nat → Int32) : Prop := ∀ g, g < 6 → E 9 g = Λ 8 g
def Q8 (Λ E : Nat → Nat → Int32) : Prop := ∀ p, p < nv (Λ 1 8) → E 10 p = Λ 9 (p * 7 + 0) ∧ E 11 p = Λ 9 (p * 7 + 1) ∧ E 12 p = Λ 9 (p * 7 + 2) ∧ E 13 p = Λ 9 (p * 7 + 3) ∧ E 14 p = Λ 9 (p * 7 + 4) ∧ E 15 p = Λ 9 (p * 7 + 5) ∧ E 16 p = Λ 9 (p * 7 + 6)
def Q9 (Λ E : Nat → Nat → Int32) : Prop := ∀ p, p < 8 → E 17 p = Λ 10 p
def Q10 (Λ E : Nat → Nat → Int32) : Prop := (∀ v, v < nv (Λ 1 10) → E 18 v = Λ 11 v) ∧ ∀ v, v < 4 → E 19 v = Λ 18 v
def Q11 (Λ E : Nat → Nat → Int32) : Prop := ∀ s, s < nv (Λ 1 11) → E 20 s = Λ 12 s ∧ E 21 s = Λ 13 s
def Q12 (Λ E : Nat → Nat → Int32) : Prop := ∀ s, s < nv (Λ 1 12) → E 22 s = Λ 14 (s * 4) ∧ E 23 s = Λ 14 (s * 4 + 1) ∧ E 24 s = Λ 14 (s * 4 + 2) ∧ E 25 s = Λ 14 (s * 4 + 3)
def LQ (Λ E : Nat → Nat → Int32) : Prop := Q0 Λ E ∧ Q1 Λ E ∧ Q2 Λ E ∧ Q3 Λ E ∧ Q4 Λ E ∧ Q5 Λ E ∧ Q6 Λ E ∧ Q7 Λ E ∧ Q8 Λ E ∧ Q9 Λ E ∧ Q10 Λ E ∧ Q11 Λ E ∧ Q12 Λ E
theorem fdQ_a {cs : Nat → Int64} {w c : Int64} {k : Nat} : fdQ (vp_updL cs k w) c (k + 1) = if fdQ cs c k < k then fdQ cs c k else if w = c then k else k + 1 := by
  have h := fdQ_i (cs := cs) (c := c) k
  split
  · rename_i h1
    exact fdQ_u (fun i hi => by rw [updL_o (by omega)]; exact h.2.1 i hi) (fun _ => by rw [updL_o (by omega)]; exact h.2.2 h1) (by omega)
  · rename_i h1
    have e : fdQ cs c k = k := by omega
    rw [e] at h
    split
    · rename_i h2
      exact fdQ_u (fun i hi => by rw [updL_o (by omega)]; exact h.2.1 i hi) (fun _ => by rw [updL_e]; exact h2) (by omega)
    · rename_i h2
      refine fdQ_u (fun i hi => ?_) (fun z => absurd z (by omega)) (Nat.le_refl _)
      by_cases ez2 : i = k
      · rw [ez2, updL_e]; exact h2
      · rw [updL_o ez2]; exact h.2.1 i (by omega)
/-- a name that was told last is of another sort -/
theorem tUse_a {T : NT} {w : Int64} {s2 so n i : Nat} {x : Int32} {B : Nat → Int32} (h1 : s2 < 100) (h2 : so < 100) (hne : s2 ≠ so) : tUse (tAdd T w s2 x) so B n i = tUse T so B n i := by
  unfold tUse pUse tAdd
  dsimp only
  by_cases hn : nmP B n i
  · rw [if_pos hn, if_pos hn, fdQ_a]
    by_cases hf : fdQ T.2.1 (coT B n i) T.1 < T.1
    · rw [if_pos hf]
      have ea : upd T.2.2.1 T.1 (nI s2) (fdQ T.2.1 (coT B n i) T.1) = T.2.2.1 (fdQ T.2.1 (coT B n i) T.1) := upd_o (by omega)
      have eb : upd T.2.2.2 T.1 x (fdQ T.2.1 (coT B n i) T.1) = T.2.2.2 (fdQ T.2.1 (coT B n i) T.1) := upd_o (by omega)
      by_cases hs : T.2.2.1 (fdQ T.2.1 (coT B n i) T.1) = nI so
      · rw [if_pos ⟨by omega, ea.trans hs⟩, if_pos ⟨hf, hs⟩, eb]
      · rw [if_neg (fun z => hs (ea.symm.trans z.2)), if_neg (fun z => hs z.2)]
    · rw [if_neg hf, if_neg (fun z : _ ∧ _ => hf z.1)]
      by_cases hw : w = coT B n i
      · rw [if_pos hw]
        rw [if_neg (fun z : _ ∧ _ => absurd ((nI_eq (by omega) (by omega)).mp ((upd_e).symm.trans z.2)) hne)]
      · rw [if_neg hw, if_neg (fun z : _ ∧ _ => absurd z.1 (by omega))]
  · rw [if_neg hn, if_neg hn]
theorem tU_82 {T : NT} {w : Int64} {n i : Nat} {x : Int32} {B : Nat → Int32} : tUse (tAdd T w 8 x) 2 B n i = tUse T 2 B n i := tUse_a (by decide) (by decide) (by decide)
theorem tU_84 {T : NT} {w : Int64} {n i : Nat} {x : Int32} {B : Nat → Int32} : tUse (tAdd T w 8 x) 4 B n i = tUse T 4 B n i := tUse_a (by decide) (by decide) (by decide)
theorem tU_04 {T : NT} {w : Int64} {n i : Nat} {x : Int32} {B : Nat → Int32} : tUse (tAdd T w 10 x) 4 B n i = tUse T 4 B n i := tUse_a (by decide) (by decide) (by decide)
def nmE (E : Nat → Nat → Int32) (k : Nat) (s x : Int32) : Nat → Nat → Int32 := ud (ud (ud E 27 k s) 28 k x) 0 15 (nI k + nI 1)
theorem NR_a {T : NT} {E : Nat → Nat → Int32} {L : Nat → Nat → Int64} {w : Int64} {so : Nat} {x : Int32} (h : NR T E L) (hk : T.1 < 24) (hso : so = 2 ∨ so = 4 ∨ so = 8 ∨ so = 10) : NR (tAdd T w so x) (nmE E T.1 (nI (rsn so)) x) (udJ L 26 T.1 w) := by
  refine ⟨nI_add T.1 1, hk, fun j hj => ?_⟩
  change j < T.1 + 1 at hj
  show vp_updL (L 26) T.1 w j = vp_updL T.2.1 T.1 w j ∧ upd (E 28) T.1 x j = upd T.2.2.2 T.1 x j ∧ ∃ s, (s = 2 ∨ s = 4 ∨ s = 8 ∨ s = 10) ∧ upd T.2.2.1 T.1 (nI so) j = nI s ∧ upd (E 27) T.1 (nI (rsn so)) j = nI (rsn s)
  by_cases e : j = T.1
  · rw [e, updL_e, updL_e, upd_e, upd_e, upd_e, upd_e]
    exact ⟨rfl, rfl, so, hso, rfl, rfl⟩
  · rw [updL_o e, updL_o e, upd_o e, upd_o e, upd_o e, upd_o e]
    exact h.2.2 j (by omega)
theorem D222 {d : Nat} {m : Mm} {Q : Option Value → Mm → Prop} {q : Nat} {E : Nat → Nat → Int32} {L : Nat → Nat → Int64} (hW : Wd m.2.2) (hN : NW m.2.2 q) (hdq : q + 29 ≤ 142 ∨ 142 + 3 ≤ q) {D : Nat → Nat → Int32} {K : Nat → Nat → Int64} {k : Nat} {w : Int64} {s x : Int32} (hq4 : va_rf (mR m 142 4) = .ref q) (hk : E 0 15 = nI k) (hk32 : k < 32) (hQ : Q none (pp m 142 3 D K q 29 (nmE E k s x) (udJ L 26 k w))) : Cc d 0 0 222 [.ref 142, .long w, .int s, .int x] (pp m 142 3 D K q 29 E L) Q := by
  refine ent (n := 84) z222 (by decide) rfl (by decide) (Nat.le_of_ble_eq_true rfl) (fun sc => ?_)
  refine And.intro (Wdo_142 hW) (Exists.intro _ (And.intro hq4 ?_))
  refine And.intro (NWo_0 hN) (Exists.intro _ (And.intro (NWr_0_42 hN) ?_))
  refine And.intro (Wdo_142 hW) (Exists.intro _ (And.intro hq4 ?_))
  refine And.intro (NWo_0 hN) ?_
  rw [pp_20 (y := q) (by omega) (by decide)]
  rw [hk]
  refine And.intro (NWi_26 hN (vi rfl (by omega))) ?_
  rw [nI_clamp (show k < 2 ^ 31 by omega)]
  rw [pp_v2 (y := q) (f := 26) (by omega) (by decide)]
  refine And.intro (Wdo_142 hW) (Exists.intro _ (And.intro hq4 ?_))
  refine And.intro (NWo_0 hN) (Exists.intro _ (And.intro (NWr_0_43 hN) ?_))
  refine And.intro (Wdo_142 hW) (Exists.intro _ (And.intro hq4 ?_))
  refine And.intro (NWo_0 hN) ?_
  rw [pp_20 (y := q) (by omega) (by decide)]
  rw [hk]
  refine And.intro (NWi_27 hN (vi rfl (by omega))) ?_
  rw [nI_clamp (show k < 2 ^ 31 by omega)]
  rw [pp_u2 (y := q) (f := 27) (by omega) (by decide)]
  refine And.intro (Wdo_142 hW) (Exists.intro _ (And.intro hq4 ?_))
  refine And.intro (NWo_0 hN) (Exists.intro _ (And.intro (NWr_0_44 hN) ?_))
  refine And.intro (Wdo_142 hW) (Exists.intro _ (And.intro hq4 ?_))
  refine And.intro (NWo_0 hN) ?_
  rw [pp_20 (y := q) (by omega) (by decide)]
  rw [ud_ne (D := E) (f := 27) (g := 0) (by decide)]
  rw [hk]
  refine And.intro (NWi_28 hN (vi rfl (by omega))) ?_
  rw [nI_clamp (show k < 2 ^ 31 by omega)]
  rw [pp_u2 (y := q) (f := 28) (by omega) (by decide)]
  refine And.intro (Wdo_142 hW) (Exists.intro _ (And.intro hq4 ?_))
  refine And.intro rfl ?_
  refine And.intro (NWo_0 hN) ?_
  rw [pp_20 (y := q) (by omega) (by decide)]
  rw [ud_ne (D := (ud E 27 k s)) (f := 28) (g := 0) (by decide)]
  rw [ud_ne (D := E) (f := 27) (g := 0) (by decide)]
  rw [hk]
  refine And.intro (NWo_0 hN) ?_
  rw [pp_u20 (y := q) (by omega) (by decide)]
  refine And.intro ⟨rfl, rfl, Nat.le_refl _, Nat.le_refl _⟩ ?_
  exact hQ
