/-! ===== a block of rows as one value ===== -/
def ud (D : Nat → Nat → Int32) (f k : Nat) (v : Int32) : Nat → Nat → Int32 := va_up D f (upd (D f) k v)
theorem ud_ne {D : Nat → Nat → Int32} {f g k : Nat} {v : Int32} (h : g ≠ f) : ud D f k v g = D g := if_neg h
theorem ud_eq {D : Nat → Nat → Int32} {f k : Nat} {v : Int32} : ud D f k v f = upd (D f) k v := if_pos rfl
def bput (m : Mm) (x n : Nat) (D : Nat → Nat → Int32) : Mm := (fun b => if x ≤ b ∧ b < x + n then D (b - x) else m.1 b, m.2)
theorem bput_r {m : Mm} {x n f : Nat} {D : Nat → Nat → Int32} (h : f < n) : mI (bput m x n D) (x + f) = D f := by
  show (if x ≤ x + f ∧ x + f < x + n then D (x + f - x) else m.1 (x + f)) = D f
  rw [if_pos (by omega), show x + f - x = f by omega]
theorem bput_0 {m : Mm} {x n : Nat} {D : Nat → Nat → Int32} (h : 0 < n) : mI (bput m x n D) x = D 0 := bput_r (f := 0) h
theorem bput_lo {m : Mm} {x n b : Nat} {D : Nat → Nat → Int32} (h : b < x) : mI (bput m x n D) b = mI m b := if_neg (by omega)
theorem bput_hi {m : Mm} {x n b : Nat} {D : Nat → Nat → Int32} (h : x + n ≤ b) : mI (bput m x n D) b = mI m b := if_neg (by omega)
theorem bput_u {m : Mm} {x n f k : Nat} {D : Nat → Nat → Int32} {v : Int32} (h : f < n) : uI (bput m x n D) (x + f) k v = bput m x n (ud D f k v) := by
  unfold uI
  show (va_up (bput m x n D).1 (x + f) (upd ((bput m x n D).1 (x + f)) k v), m.2) = (_, m.2)
  refine congrArg (fun z => (z, m.2)) (funext fun b => ?_)
  show (if b = x + f then upd (mI (bput m x n D) (x + f)) k v else mI (bput m x n D) b) = mI (bput m x n (ud D f k v)) b
  by_cases hb : b = x + f
  · rw [if_pos hb, hb, bput_r h, bput_r h, ud_eq]
  · rw [if_neg hb]
    by_cases hx : x ≤ b ∧ b < x + n
    · obtain ⟨g, rfl⟩ : ∃ g, b = x + g := ⟨b - x, by omega⟩
      rw [bput_r (by omega), bput_r (by omega), ud_ne (by omega)]
    · rcases Nat.lt_or_ge b x with q | q
      · rw [bput_lo q, bput_lo q]
      · rw [bput_hi (by omega), bput_hi (by omega)]
theorem bput_u0 {m : Mm} {x n k : Nat} {D : Nat → Nat → Int32} {v : Int32} (h : 0 < n) : uI (bput m x n D) x k v = bput m x n (ud D 0 k v) := bput_u (f := 0) h
theorem bput_self {m : Mm} {x n : Nat} : bput m x n (fun f => mI m (x + f)) = m := by
  show ((fun b => if x ≤ b ∧ b < x + n then mI m (x + (b - x)) else m.1 b), m.2) = (m.1, m.2)
  refine congrArg (fun z => (z, m.2)) (funext fun b => ?_)
  show (if x ≤ b ∧ b < x + n then mI m (x + (b - x)) else m.1 b) = m.1 b
  by_cases hx : x ≤ b ∧ b < x + n
  · rw [if_pos hx, show x + (b - x) = b by omega]; rfl
  · rw [if_neg hx]
theorem bput_bput {m : Mm} {x n : Nat} {D D' : Nat → Nat → Int32} : bput (bput m x n D) x n D' = bput m x n D' := by
  show ((fun b => if x ≤ b ∧ b < x + n then D' (b - x) else if x ≤ b ∧ b < x + n then D (b - x) else m.1 b), m.2) = ((fun b => if x ≤ b ∧ b < x + n then D' (b - x) else m.1 b), m.2)
  refine congrArg (fun z => (z, m.2)) (funext fun b => ?_)
  by_cases hx : x ≤ b ∧ b < x + n
  · show (if x ≤ b ∧ b < x + n then _ else _) = (if x ≤ b ∧ b < x + n then _ else _)
    rw [if_pos hx, if_pos hx]
  · show (if x ≤ b ∧ b < x + n then _ else if x ≤ b ∧ b < x + n then _ else _) = (if x ≤ b ∧ b < x + n then _ else _)
    rw [if_neg hx, if_neg hx, if_neg hx]
theorem nar6 {g : Nat} (h : g < 6) : vp_nar .byte (nI g).toInt8.toInt32 = nI g := by
  match g, h with
  | 0, _ => decide
  | 1, _ => decide
  | 2, _ => decide
  | 3, _ => decide
  | 4, _ => decide
  | 5, _ => decide
  | n + 6, h => exact absurd h (by omega)
/-! ===== Days, as values ===== -/
def setF (D : Nat → Nat → Int32) (p : Nat) (f h : Int32) : Nat → Nat → Int32 := ud (ud (ud D 1 p f) 2 p h) 0 11 (D 0 11 - nI 1)
def comF (D : Nat → Nat → Int32) (p g : Nat) (h : Int32) (k : Nat) : Nat → Nat → Int32 := ud (ud (ud (ud (ud D 5 p (nI g)) 6 p h) 9 p (D 9 p ||| nI 1 <<< (nI g &&& 31))) 10 (p * 97 + k) (nI g)) 8 p (nI k + nI 1)

theorem D11 {d : Nat} {m : Mm} {Q : Option Value → Mm → Prop} {x : Nat} {D : Nat → Nat → Int32} (hD : DW m.2.2 x) {p : Nat} {f h : Int32} (hp : p < 8) (hQ : Q none (bput m x 12 (setF D p f h))) : Cc d 0 0 11 [.ref x, .int (nI p), .int f, .int h] (bput m x 12 D) Q := by
  refine ent (n := 54) z11 (by decide) rfl (by decide) (Nat.le_of_ble_eq_true rfl) (fun sc => ?_)
  refine And.intro (DWo_0 hD) (Exists.intro _ (And.intro (DWr_0_0 hD) ?_))
  refine And.intro (DWi_1 hD (vi rfl (by omega))) ?_
  rw [nI_clamp (show p < 2 ^ 31 by omega)]
  rw [bput_u (x := x) (f := 1) (by decide)]
  refine And.intro (DWo_0 hD) (Exists.intro _ (And.intro (DWr_0_1 hD) ?_))
  refine And.intro (DWi_2 hD (vi rfl (by omega))) ?_
  rw [nI_clamp (show p < 2 ^ 31 by omega)]
  rw [bput_u (x := x) (f := 2) (by decide)]
  refine And.intro rfl ?_
  refine And.intro (DWo_0 hD) ?_
  rw [bput_0 (x := x) (by decide)]
  rw [ud_ne (D := (ud D 1 p f)) (f := 2) (g := 0) (by decide)]
  rw [ud_ne (D := D) (f := 1) (g := 0) (by decide)]
  refine And.intro (DWo_0 hD) ?_
  rw [bput_u0 (x := x) (by decide)]
  refine And.intro ⟨rfl, rfl, Nat.le_refl _, Nat.le_refl _⟩ ?_
  exact hQ
theorem D4 {d : Nat} {m : Mm} {Q : Option Value → Mm → Prop} {x : Nat} {D : Nat → Nat → Int32} (hD : DW m.2.2 x) {p g k : Nat} {h : Int32} (hp : p < 8) (hg : g < 6) (hk : D 8 p = nI k) (hk97 : k < 97) (hQ : Q none (bput m x 12 (comF D p g h k))) : Cc d 0 0 4 [.ref x, .int (nI p), .int (nI g), .int h] (bput m x 12 D) Q := by
  refine ent (n := 116) z4 (by decide) rfl (by decide) (Nat.le_of_ble_eq_true rfl) (fun sc => ?_)
  refine And.intro (DWo_0 hD) (Exists.intro _ (And.intro (DWr_0_4 hD) ?_))
  refine And.intro (DWi_5 hD (vi rfl (by omega))) ?_
  rw [nI_clamp (show p < 2 ^ 31 by omega)]
  rw [bput_u (x := x) (f := 5) (by decide)]
  refine And.intro (DWo_0 hD) (Exists.intro _ (And.intro (DWr_0_5 hD) ?_))
  refine And.intro (DWi_6 hD (vi rfl (by omega))) ?_
  rw [nI_clamp (show p < 2 ^ 31 by omega)]
  rw [bput_u (x := x) (f := 6) (by decide)]
  refine And.intro (DWo_0 hD) (Exists.intro _ (And.intro (DWr_0_8 hD) ?_))
  refine And.intro ⟨rfl, rfl⟩ ?_
  refine And.intro (DWi_9 hD (vi rfl (by omega))) ?_
  rw [nI_clamp (show p < 2 ^ 31 by omega)]
  rw [bput_r (x := x) (f := 9) (by decide)]
  rw [ud_ne (D := (ud D 5 p (nI g))) (f := 6) (g := 9) (by decide)]
  rw [ud_ne (D := D) (f := 5) (g := 9) (by decide)]
  refine And.intro (DWi_9 hD (vi rfl (by omega))) ?_
  rw [nI_clamp (show p < 2 ^ 31 by omega)]
  rw [bput_u (x := x) (f := 9) (by decide)]
  refine And.intro (DWo_0 hD) (Exists.intro _ (And.intro (DWr_0_7 hD) ?_))
  refine And.intro (DWi_8 hD (vi rfl (by omega))) ?_
  rw [nI_clamp (show p < 2 ^ 31 by omega)]
  rw [bput_r (x := x) (f := 8) (by decide)]
  rw [ud_ne (D := (ud (ud D 5 p (nI g)) 6 p h)) (f := 9) (g := 8) (by decide)]
  rw [ud_ne (D := (ud D 5 p (nI g))) (f := 6) (g := 8) (by decide)]
  rw [ud_ne (D := D) (f := 5) (g := 8) (by decide)]
  rw [hk]
  refine And.intro (fun cz25 => ?_) (fun cz25 => ?_)
  · -- 25 taken: nI 97 ≤ nI k
    have kz25 : 97 ≤ k := kle (a := 97) (b := k) rfl rfl (by omega) (by omega) cz25
    omega
  · -- 25 not: ¬ nI 97 ≤ nI k
    have kz25 : k < 97 := knle (a := 97) (b := k) rfl rfl (by omega) (by omega) cz25
    refine And.intro (DWo_0 hD) (Exists.intro _ (And.intro (DWr_0_9 hD) ?_))
    refine And.intro (DWo_0 hD) (Exists.intro _ (And.intro (DWr_0_7 hD) ?_))
    refine And.intro (DWi_8 hD (vi rfl (by omega))) ?_
    rw [nI_clamp (show p < 2 ^ 31 by omega)]
    rw [bput_r (x := x) (f := 8) (by decide)]
    rw [ud_ne (D := (ud (ud D 5 p (nI g)) 6 p h)) (f := 9) (g := 8) (by decide)]
    rw [ud_ne (D := (ud D 5 p (nI g))) (f := 6) (g := 8) (by decide)]
    rw [ud_ne (D := D) (f := 5) (g := 8) (by decide)]
    rw [hk]
    have ez38 : (nI p * nI 97) + nI k = nI (p * 97 + k) := by simp only [nI_add, pk_mul]
    refine And.intro (DWi_10 hD (vi ez38 (by omega))) ?_
    rw [vc ez38 (by omega)]
    rw [nar6 hg]
    rw [bput_u (x := x) (f := 10) (by decide)]
    refine And.intro (DWo_0 hD) (Exists.intro _ (And.intro (DWr_0_7 hD) ?_))
    refine And.intro ⟨rfl, rfl⟩ ?_
    refine And.intro (DWi_8 hD (vi rfl (by omega))) ?_
    rw [nI_clamp (show p < 2 ^ 31 by omega)]
    rw [bput_r (x := x) (f := 8) (by decide)]
    rw [ud_ne (D := (ud (ud (ud D 5 p (nI g)) 6 p h) 9 p ((D 9 p) ||| (nI 1 <<< (nI g &&& 31))))) (f := 10) (g := 8) (by decide)]
    rw [ud_ne (D := (ud (ud D 5 p (nI g)) 6 p h)) (f := 9) (g := 8) (by decide)]
    rw [ud_ne (D := (ud D 5 p (nI g))) (f := 6) (g := 8) (by decide)]
    rw [ud_ne (D := D) (f := 5) (g := 8) (by decide)]
    rw [hk]
    refine And.intro (DWi_8 hD (vi rfl (by omega))) ?_
    rw [nI_clamp (show p < 2 ^ 31 by omega)]
    rw [bput_u (x := x) (f := 8) (by decide)]
    refine And.intro ⟨rfl, rfl, Nat.le_refl _, Nat.le_refl _⟩ ?_
    exact hQ
def nv (x : Int32) : Nat := x.toNatClampNeg
def iR (x : Int32) (k : Nat) : Prop := ∃ n, n < k ∧ x = nI n
theorem iR_e {x : Int32} {k : Nat} (h : iR x k) (hk : k ≤ 2 ^ 31) : x = nI (nv x) ∧ nv x < k := by
  obtain ⟨n, hn, rfl⟩ := h
  unfold nv
  rw [nI_clamp (by omega)]
  exact ⟨rfl, hn⟩
theorem iR_m {x : Int32} {k l : Nat} (h : iR x k) (hk : k ≤ l) : iR x l := by
  obtain ⟨n, hn, e⟩ := h
  exact ⟨n, by omega, e⟩
theorem nv_nI {n : Nat} (h : n < 2 ^ 31) : nv (nI n) = n := nI_clamp h
def lam (m : Mm) (a : Nat) : Nat → Nat → Int32 := fun f => mI m (a + f)
/-- who is first at an altar: 8 if nobody is -/
def ec (q : Nat) : Int32 := if q < 8 then nI q else -nI 1
theorem ec_lt {q : Nat} (h : q < 8) : ec q = nI q := if_pos h
theorem ec_ge {q : Nat} (h : ¬ q < 8) : ec q = -nI 1 := if_neg h
theorem nI_neg1 {q : Nat} (h : q < 2 ^ 31) : nI q ≠ -nI 1 := fun e => absurd (show nI q < 0 by rw [e]; decide) (nI_pos h)
theorem ec_n {q : Nat} : ec q = -nI 1 ↔ ¬ q < 8 := by
  by_cases h : q < 8
  · rw [ec_lt h]
    exact ⟨fun e => absurd e (nI_neg1 (by omega)), fun z => absurd h z⟩
  · exact ⟨fun _ => h, fun _ => ec_ge h⟩
def foS (D : Nat → Nat → Int32) (g h : Nat) : Nat → Nat → Nat := fun p q => if stF (D 1) (D 5) (D 6) p (nI g) (nI h) = 0 then q else (if q < 8 then (if gaF (D 4) (D 6) p q = 0 then q else p) else p)
def foQ (D : Nat → Nat → Int32) (g h p : Nat) : Nat := fo (foS D g h) 8 p
def foF (D : Nat → Nat → Int32) (g h : Nat) : Nat := foQ D g h 8
theorem foQ_s {D : Nat → Nat → Int32} {g h p : Nat} : foQ D g h (p + 1) = foS D g h p (foQ D g h p) := rfl
theorem foQ_8 {D : Nat → Nat → Int32} {g h : Nat} : ∀ {p : Nat}, p ≤ 8 → foQ D g h p < 8 ∨ foQ D g h p = 8
  | 0, _ => Or.inr rfl
  | p + 1, hp => by
    rw [foQ_s]
    unfold foS
    have ih := foQ_8 (D := D) (g := g) (h := h) (p := p) (by omega)
    split
    · exact ih
    · split
      · split
        · exact ih
        · exact Or.inl (by omega)
      · exact Or.inl (by omega)
/-- who is first does stand there -/
theorem foQ_st {D : Nat → Nat → Int32} {g h : Nat} : ∀ {p : Nat}, p ≤ 8 → foQ D g h p < 8 → ¬ stF (D 1) (D 5) (D 6) (foQ D g h p) (nI g) (nI h) = 0
  | 0, _, h0 => absurd h0 (by show ¬ (8 < 8); omega)
  | p + 1, hp, h0 => by
    rw [foQ_s] at h0 ⊢
    unfold foS at h0 ⊢
    have ih := foQ_st (D := D) (g := g) (h := h) (p := p) (by omega)
    split
    · rename_i h1
      rw [if_pos h1] at h0
      exact ih h0
    · rename_i h1
      split
      · rename_i h2
        split
        · exact ih h2
        · exact h1
      · exact h1
theorem stF_e {fat at_ cam : Nat → Int32} {p : Nat} {g h : Int32} (z : ¬ stF fat at_ cam p g h = 0) : fat p = nI 2 ∧ at_ p = g ∧ ¬ h < cam p := by
  unfold stF at z
  by_cases h1 : fat p = nI 2
  · rw [if_pos h1] at z
    by_cases h2 : at_ p = g
    · rw [if_pos h2] at z
      by_cases h3 : h < cam p
      · rw [if_pos h3] at z
        exact absurd rfl z
      · exact ⟨h1, h2, h3⟩
    · rw [if_neg h2] at z
      exact absurd rfl z
  · rw [if_neg h1] at z
    exact absurd rfl z
theorem lq8 {sc : Nat × (Nat → Int32)} {d : Nat} {m : Mm} {Q : Option Value → Mm → Prop} {x : Nat} {D : Nat → Nat → Int32} (hD : DW m.2.2 x) {g h : Nat} (hd : 1 ≤ d) (hQ : Q (some (.int (ec (foF D g h)))) (bput m x 12 D))  : ∀ (j p : Nat), p ≤ 8 → 8 + 1 ≤ p + j → Jj sc d 0 0 (mth 8) (pg P8 4).1 [some (.ref x), some (.int (nI g)), some (.int (nI h)), some (.int (ec (foQ D g h p))), some (.int (nI p))] [] (bput m x 12 D) 0 0 Q := by
  intro j
  induction j with
  | zero => intro p h1 h2; omega
  | succ j ih =>
    intro p h1 h2
    refine J_w z8 (i := 4) (by decide) 74 ?_
    refine And.intro (fun cz6 => ?_) (fun cz6 => ?_)
    · -- 6 taken: nI 8 ≤ nI p
      have kz6 : 8 ≤ p := kle (a := 8) (b := p) rfl rfl (by omega) (by omega) cz6
      refine And.intro ⟨rfl, trivial, Nat.le_refl _, Nat.le_refl _⟩ ?_
      rw [show p = 8 by omega]
      exact hQ
    · -- 6 not: ¬ nI 8 ≤ nI p
      have kz6 : p < 8 := knle (a := 8) (b := p) rfl rfl (by omega) (by omega) cz6
      refine And.intro ⟨by omega, Nat.le_of_ble_eq_true rfl, Nat.le_refl _, Nat.le_refl _⟩ (And.intro (DWo_0 hD) ?_)
      refine C5 (m := (bput m x 12 D)) (p := p) hD (by omega) ?_
      rw [bput_r (D := D) (f := 1) (by decide)]
      rw [bput_r (D := D) (f := 5) (by decide)]
      rw [bput_r (D := D) (f := 6) (by decide)]
      refine And.intro (fun cz12 => ?_) (fun cz12 => ?_)
      · -- 12 taken: stF (D 1) (D 5) (D 6) p (nI g) (nI h) = 0
        show Jj sc d 0 0 (mth 8) (pg P8 4).1 [some (.ref x), some (.int (nI g)), some (.int (nI h)), some (.int (ec (foQ D g h p))), some (.int (nI p + nI 1))] [] (bput m x 12 D) 0 0 Q
        rw [show nI p + nI 1 = nI (p + 1) from by simp only [nI_add, pk_mul]]
        have z := ih (p + 1) (by omega) (by omega)
        rw [foQ_s] at z
        unfold foS at z
        rw [if_pos cz12] at z
        exact z
      · -- 12 not: ¬ stF (D 1) (D 5) (D 6) p (nI g) (nI h) = 0
        refine And.intro (fun cz15 => ?_) (fun cz15 => ?_)
        · -- 15 taken: ec (foQ D g h p) = -nI 1
          have hq := ec_n.mp cz15
          show Jj sc d 0 0 (mth 8) (pg P8 4).1 [some (.ref x), some (.int (nI g)), some (.int (nI h)), some (.int (nI p)), some (.int (nI p + nI 1))] [] (bput m x 12 D) 0 0 Q
          rw [show nI p + nI 1 = nI (p + 1) from by simp only [nI_add, pk_mul]]
          have z := ih (p + 1) (by omega) (by omega)
          rw [foQ_s] at z
          unfold foS at z
          rw [if_neg cz12, if_neg hq] at z
          rw [ec_lt (show p < 8 by omega)] at z
          exact z
        · -- 15 not: ¬ ec (foQ D g h p) = -nI 1
          have hq : foQ D g h p < 8 := by rcases foQ_8 (D := D) (g := g) (h := h) (p := p) (by omega) with q | q; exact q; exact absurd (ec_ge (by omega)) cz15
          rw [ec_lt hq]
          refine And.intro ⟨by omega, Nat.le_of_ble_eq_true rfl, Nat.le_refl _, Nat.le_refl _⟩ (And.intro (DWo_0 hD) ?_)
          refine C9 (m := (bput m x 12 D)) (p := p) (q := (foQ D g h p)) hD (by omega) (by omega) ?_
          rw [bput_r (D := D) (f := 4) (by decide)]
          rw [bput_r (D := D) (f := 6) (by decide)]
          refine And.intro (fun cz20 => ?_) (fun cz20 => ?_)
          · -- 20 taken: gaF (D 4) (D 6) p ((foQ D g h p)) = 0
            show Jj sc d 0 0 (mth 8) (pg P8 4).1 [some (.ref x), some (.int (nI g)), some (.int (nI h)), some (.int (nI ((foQ D g h p)))), some (.int (nI p + nI 1))] [] (bput m x 12 D) 0 0 Q
            rw [show nI p + nI 1 = nI (p + 1) from by simp only [nI_add, pk_mul]]
            have z := ih (p + 1) (by omega) (by omega)
            rw [foQ_s] at z
            unfold foS at z
            rw [if_neg cz12, if_pos hq, if_pos cz20] at z
            rw [ec_lt hq] at z
            exact z
          · -- 20 not: ¬ gaF (D 4) (D 6) p ((foQ D g h p)) = 0
            show Jj sc d 0 0 (mth 8) (pg P8 4).1 [some (.ref x), some (.int (nI g)), some (.int (nI h)), some (.int (nI p)), some (.int (nI p + nI 1))] [] (bput m x 12 D) 0 0 Q
            rw [show nI p + nI 1 = nI (p + 1) from by simp only [nI_add, pk_mul]]
            have z := ih (p + 1) (by omega) (by omega)
            rw [foQ_s] at z
            unfold foS at z
            rw [if_neg cz12, if_pos hq, if_neg cz20] at z
            rw [ec_lt (show p < 8 by omega)] at z
            exact z
theorem D8 {d : Nat} {m : Mm} {Q : Option Value → Mm → Prop} {x : Nat} {D : Nat → Nat → Int32} (hD : DW m.2.2 x) {g h : Nat} (hd : 1 ≤ d) (hQ : Q (some (.int (ec (foF D g h)))) (bput m x 12 D)) : Cc d 0 0 8 [.ref x, .int (nI g), .int (nI h)] (bput m x 12 D) Q := by
  refine ent (n := 74) z8 (by decide) rfl (by decide) (Nat.le_of_ble_eq_true rfl) (fun sc => ?_)
  show Jj sc d 0 0 (mth 8) (pg P8 4).1 [some (.ref x), some (.int (nI g)), some (.int (nI h)), some (.int (-nI 1)), some (.int (nI 0))] [] (bput m x 12 D) 0 0 Q
  exact lq8 hD hd hQ 9 0 (by decide) (by decide)
def tOf (Λ : Nat → Nat → Int32) (p : Nat) : Nat := nv (Λ 9 (p * 7 + 0))
def sOf (Λ : Nat → Nat → Int32) (p : Nat) : Nat := nv (Λ 2 (nv (Λ 9 (p * 7 + 1))))
def waF (D : Nat → Nat → Int32) (p h : Nat) : Nat → Nat → Int32 := ud D 7 p (D 7 p + (nI h - D 6 p))
def graF (Λ Ψ D : Nat → Nat → Int32) (p g : Nat) : Int32 := gnF (Λ 9) (Λ 7) (Λ 3) (Λ 8) (Ψ 1) (D 3) (D 9) p g (sOf Λ p) (tOf Λ p)
def goF (Λ Ψ : Nat → Nat → Int32) (p g : Nat) : Int32 := onF (Ψ 2) (Λ 8) g (tOf Λ p)
/-- a prayer is served -/
def juF (Λ Ψ D : Nat → Nat → Int32) (p g h : Nat) : Nat → Nat → Int32 := if graF Λ Ψ D p g = 0 then (if goF Λ Ψ p g = -nI 2 then setF (waF D p h) p (nI 1) (nI h) else comF (waF D p h) p (nv (goF Λ Ψ p g)) (nI h + nI 1) (nv (D 8 p))) else setF (waF D p h) p (nI 0) (nI h)
/-- what the days take of a land and of what acts change -/
def JE (Λ Ψ : Nat → Nat → Int32) (n np : Nat) : Prop := (∀ p, p < np → iR (Λ 9 (p * 7 + 0)) 6 ∧ iR (Λ 9 (p * 7 + 1)) 24 ∧ iR (Λ 9 (p * 7 + 3)) 6 ∧ iR (Λ 9 (p * 7 + 4)) 24) ∧ (∀ c, c < 24 → 0 < np → iR (Λ 2 c) 5) ∧ (∀ g, g < n → iR (Λ 4 g) 10) ∧ ∀ g t, g < 6 → t < 6 → 0 < np → Ψ 2 (g * 6 + t) = -nI 2 ∨ iR (Ψ 2 (g * 6 + t)) 6
theorem goF_o {Λ Ψ : Nat → Nat → Int32} {n np p g : Nat} (hJ : JE Λ Ψ n np) (hp0 : 0 < np) (hg : g < 6) (ht : tOf Λ p < 6) (h : ¬ goF Λ Ψ p g = -nI 2) : goF Λ Ψ p g = nI (nv (goF Λ Ψ p g)) ∧ nv (goF Λ Ψ p g) < 6 := by
  unfold goF onF at h ⊢
  by_cases h1 : Ψ 2 (g * 6 + tOf Λ p) = -nI 2
  · rw [if_pos h1] at h
    exact absurd rfl h
  · rw [if_neg h1] at h ⊢
    split at h
    · exact absurd rfl h
    · rename_i h2
      rw [if_neg h2]
      exact iR_e ((hJ.2.2.2 g _ hg ht hp0).resolve_left h1) (by decide)
theorem D10a {d : Nat} {m : Mm} {Q : Option Value → Mm → Prop} {x : Nat} {D : Nat → Nat → Int32} (hD : DW m.2.2 x) {a b : Nat} (hL : LW m.2.2 a) (hB : SW m.2.2 b) (hax : a + 19 ≤ x) (hbx : b + 4 ≤ x) {p g h : Nat} (hd : 2 ≤ d) (hp : p < 8) (hg : g < 6) (hc : mI m (a + 9) (p * 7 + 1) = nI (nv (mI m (a + 9) (p * 7 + 1)))) (hc24 : (nv (mI m (a + 9) (p * 7 + 1))) < 24) (hs : mI m (a + 2) (nv (mI m (a + 9) (p * 7 + 1))) = nI (sOf (lam m a) p)) (hs5 : (sOf (lam m a) p) < 5) (ht : mI m (a + 9) (p * 7 + 0) = nI (tOf (lam m a) p)) (ht6 : (tOf (lam m a) p) < 6) (hon : ¬ (goF (lam m a) (lam m b) p g) = -nI 2 → (goF (lam m a) (lam m b) p g) = nI (nv (goF (lam m a) (lam m b) p g)) ∧ nv (goF (lam m a) (lam m b) p g) < 6) (hk : D 8 p = nI (nv (D 8 p))) (hk97 : nv (D 8 p) < 97) (hQ : Q none (bput m x 12 (juF (lam m a) (lam m b) D p g h))) : Cc d 0 0 10 [.ref x, .ref a, .ref b, .int (nI p), .int (nI g), .int (nI h)] (bput m x 12 D) Q := by
  refine ent (n := 124) z10 (by decide) rfl (by decide) (Nat.le_of_ble_eq_true rfl) (fun sc => ?_)
  refine And.intro (DWo_0 hD) (Exists.intro _ (And.intro (DWr_0_6 hD) ?_))
  refine And.intro ⟨rfl, rfl⟩ ?_
  refine And.intro (DWi_7 hD (vi rfl (by omega))) ?_
  rw [nI_clamp (show p < 2 ^ 31 by omega)]
  rw [bput_r (x := x) (f := 7) (by decide)]
  refine And.intro (DWo_0 hD) (Exists.intro _ (And.intro (DWr_0_5 hD) ?_))
  refine And.intro (DWi_6 hD (vi rfl (by omega))) ?_
  rw [nI_clamp (show p < 2 ^ 31 by omega)]
  rw [bput_r (x := x) (f := 6) (by decide)]
  refine And.intro (DWi_7 hD (vi rfl (by omega))) ?_
  rw [nI_clamp (show p < 2 ^ 31 by omega)]
  rw [bput_u (x := x) (f := 7) (by decide)]
  refine And.intro ⟨by omega, Nat.le_of_ble_eq_true rfl, Nat.le_refl _, Nat.le_refl _⟩ (And.intro (DWo_0 hD) ?_)
  refine C12 (m := (bput m x 12 (ud D 7 p ((D 7 p) + (nI h - (D 6 p)))))) (p := p) (g := g) (c := (nv (mI m (a + 9) (p * 7 + 1)))) (t := (tOf (lam m a) p)) (s := (sOf (lam m a) p)) hD hL hB (by omega) (by omega) (by omega) (by rw [bput_lo (by omega)]; exact hc) hc24 (by rw [bput_lo (by omega)]; exact hs) hs5 (by rw [bput_lo (by omega)]; exact ht) ht6 ?_
  rw [bput_lo (m := m) (x := x) (n := 12) (D := (ud D 7 p ((D 7 p) + (nI h - (D 6 p))))) (b := (a + 9)) (by omega)]
  rw [bput_lo (m := m) (x := x) (n := 12) (D := (ud D 7 p ((D 7 p) + (nI h - (D 6 p))))) (b := (a + 7)) (by omega)]
  rw [bput_lo (m := m) (x := x) (n := 12) (D := (ud D 7 p ((D 7 p) + (nI h - (D 6 p))))) (b := (a + 3)) (by omega)]
  rw [bput_lo (m := m) (x := x) (n := 12) (D := (ud D 7 p ((D 7 p) + (nI h - (D 6 p))))) (b := (a + 8)) (by omega)]
  rw [bput_lo (m := m) (x := x) (n := 12) (D := (ud D 7 p ((D 7 p) + (nI h - (D 6 p))))) (b := (b + 1)) (by omega)]
  rw [bput_r (D := (ud D 7 p ((D 7 p) + (nI h - (D 6 p))))) (f := 3) (by decide)]
  rw [ud_ne (D := D) (f := 7) (g := 3) (by decide)]
  rw [bput_r (D := (ud D 7 p ((D 7 p) + (nI h - (D 6 p))))) (f := 9) (by decide)]
  rw [ud_ne (D := D) (f := 7) (g := 9) (by decide)]
  refine And.intro (fun cz19 => ?_) (fun cz19 => ?_)
  · -- 19 taken: gnF (mI m (a + 9)) (mI m (a + 7)) (mI m (a + 3)) (mI m (a + 8)) (mI m (b + 1)) (D 3) (D 9) p g (sOf (lam m a) p) (tOf (lam m a) p) = 0
    refine And.intro ⟨by omega, Nat.le_of_ble_eq_true rfl, Nat.le_refl _, Nat.le_refl _⟩ (And.intro (LWo_0 hL) ?_)
    refine C27 (m := (bput m x 12 (ud D 7 p ((D 7 p) + (nI h - (D 6 p)))))) (p := p) (w := 0) hL (by omega) (by omega) ?_
    rw [bput_lo (m := m) (x := x) (n := 12) (D := (ud D 7 p ((D 7 p) + (nI h - (D 6 p))))) (b := (a + 9)) (by omega)]
    rw [ht]
    refine And.intro ⟨by omega, Nat.le_of_ble_eq_true rfl, Nat.le_refl _, Nat.le_refl _⟩ (And.intro (LWo_0 hL) ?_)
    refine C36 (m := (bput m x 12 (ud D 7 p ((D 7 p) + (nI h - (D 6 p)))))) (g := g) (t := (tOf (lam m a) p)) (by omega) hL hB (by omega) (by omega) ?_
    rw [bput_lo (m := m) (x := x) (n := 12) (D := (ud D 7 p ((D 7 p) + (nI h - (D 6 p))))) (b := (b + 2)) (by omega)]
    rw [bput_lo (m := m) (x := x) (n := 12) (D := (ud D 7 p ((D 7 p) + (nI h - (D 6 p))))) (b := (a + 8)) (by omega)]
    refine And.intro (fun cz37 => ?_) (fun cz37 => ?_)
    · -- 37 taken: ¬ onF (mI m (b + 2)) (mI m (a + 8)) g ((tOf (lam m a) p)) = -nI 2
      have ho := hon (show ¬ (goF (lam m a) (lam m b) p g) = -nI 2 from cz37)
      rw [show onF (mI m (b + 2)) (mI m (a + 8)) g (tOf (lam m a) p) = nI (nv (goF (lam m a) (lam m b) p g)) from ho.1]
      refine And.intro ⟨by omega, Nat.le_of_ble_eq_true rfl, Nat.le_refl _, Nat.le_refl _⟩ (And.intro (DWo_0 hD) ?_)
      refine D4 (p := p) (g := (nv (goF (lam m a) (lam m b) p g))) (k := (nv (D 8 p))) hD (by omega) ho.2 hk (by omega) ?_
      refine And.intro ⟨rfl, rfl, Nat.le_refl _, Nat.le_refl _⟩ ?_
      unfold juF at hQ
      rw [if_pos (show graF (lam m a) (lam m b) D p g = 0 from cz19), if_neg (show ¬ (goF (lam m a) (lam m b) p g) = -nI 2 from cz37)] at hQ
      exact hQ
    · -- 37 not: onF (mI m (b + 2)) (mI m (a + 8)) g ((tOf (lam m a) p)) = -nI 2
      refine And.intro ⟨by omega, Nat.le_of_ble_eq_true rfl, Nat.le_refl _, Nat.le_refl _⟩ (And.intro (DWo_0 hD) ?_)
      refine D11 (p := p) hD (by omega) ?_
      refine And.intro ⟨rfl, rfl, Nat.le_refl _, Nat.le_refl _⟩ ?_
      unfold juF at hQ
      rw [if_pos (show graF (lam m a) (lam m b) D p g = 0 from cz19), if_pos (show (goF (lam m a) (lam m b) p g) = -nI 2 from cz37)] at hQ
      exact hQ
  · -- 19 not: ¬ gnF (mI m (a + 9)) (mI m (a + 7)) (mI m (a + 3)) (mI m (a + 8)) (mI m (b + 1)) (D 3) (D 9) p g (sOf (lam m a) p) (tOf (lam m a) p) = 0
    refine And.intro ⟨by omega, Nat.le_of_ble_eq_true rfl, Nat.le_refl _, Nat.le_refl _⟩ (And.intro (DWo_0 hD) ?_)
    refine D11 (p := p) hD (by omega) ?_
    refine And.intro ⟨rfl, rfl, Nat.le_refl _, Nat.le_refl _⟩ ?_
    unfold juF at hQ
    rw [if_neg (show ¬ graF (lam m a) (lam m b) D p g = 0 from cz19)] at hQ
    exact hQ
theorem D10 {d : Nat} {m : Mm} {Q : Option Value → Mm → Prop} {x : Nat} {D : Nat → Nat → Int32} (hD : DW m.2.2 x) {a b : Nat} (hL : LW m.2.2 a) (hB : SW m.2.2 b) (hax : a + 19 ≤ x) (hbx : b + 4 ≤ x) {n np p g h : Nat} (hJ : JE (lam m a) (lam m b) n np) (hd : 2 ≤ d) (hp : p < np) (hp8 : p < 8) (hg : g < 6) (hk : iR (D 8 p) 97) (hQ : Q none (bput m x 12 (juF (lam m a) (lam m b) D p g h))) : Cc d 0 0 10 [.ref x, .ref a, .ref b, .int (nI p), .int (nI g), .int (nI h)] (bput m x 12 D) Q := by
  have h1 := hJ.1 p hp
  have h2 := iR_e h1.2.1 (by decide)
  have h3 := iR_e (hJ.2.1 _ h2.2 (by omega)) (by decide)
  have h4 := iR_e h1.1 (by decide)
  have h5 := iR_e hk (by decide)
  exact D10a hD hL hB hax hbx hd hp8 hg h2.1 h2.2 h3.1 h3.2 h4.1 h4.2 (goF_o hJ (by omega) hg h4.2) h5.1 h5.2 hQ
