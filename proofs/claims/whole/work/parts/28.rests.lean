/-- with how many villages a god is shared -/
def shS (row : Nat → Int32) (k g : Nat) : Nat → Int32 → Int32 := fun v y => if v = k then y else if row v = nI g then y + nI 1 else y
def shQ (row : Nat → Int32) (k g v : Nat) : Int32 := fo (shS row k g) (nI 1) v
theorem shQ_s {row : Nat → Int32} {k g v : Nat} : shQ row k g (v + 1) = shS row k g v (shQ row k g v) := fo_s
def coF (row wor : Nat → Int32) (nvl k g : Nat) : Int32 := if shQ row k g nvl ≤ nI 1 then wor (k * 6 + g) else wor (k * 6 + g) / shQ row k g nvl
theorem lq114 {sc : Nat × (Nat → Int32)} {d : Nat} {m : Mm} {Q : Option Value → Mm → Prop} {D : Nat → Nat → Int32} {nvl n : Nat} (hW : Wd m.2.2) (hD2 : D 0 2 = nI nvl) (hv4 : nvl ≤ 4) (hD3 : D 0 3 = nI n) (hn6 : n ≤ 6) {k g : Nat} (hk : k < 4) (hg : g < 6) (hQ : Q (some (.int (coF (D 1) (D 2) nvl k g))) (bput m 136 3 D))  : ∀ (j v : Nat), v ≤ nvl → nvl + 1 ≤ v + j → Jj sc d 0 0 (mth 114) (pg P114 4).1 [some (.ref 136), some (.int (nI k)), some (.int (nI g)), some (.int (shQ (D 1) k g v)), some (.int (nI v))] [] (bput m 136 3 D) 0 0 Q := by
  intro j
  induction j with
  | zero => intro v h1 h2; omega
  | succ j ih =>
    intro v h1 h2
    refine J_w z114 (i := 4) (by decide) 96 ?_
    refine And.intro (Wdo_136 hW) ?_
    rw [bput_0 (x := 136) (by decide)]
    rw [hD2]
    refine And.intro (fun cz7 => ?_) (fun cz7 => ?_)
    · -- 7 taken: nI nvl ≤ nI v
      have kz7 : nvl ≤ v := kle (a := nvl) (b := v) rfl rfl (by omega) (by omega) cz7
      refine And.intro (Wdo_136 hW) (Exists.intro _ (And.intro (Wdr_136_1 hW) ?_))
      have ez27 : (nI k * nI 6) + nI g = nI (k * 6 + g) := by simp only [nI_add, pk_mul]
      refine And.intro (Wdi_138 hW (vi ez27 (by omega))) ?_
      rw [vc ez27 (by omega)]
      rw [bput_r (x := 136) (f := 2) (by decide)]
      refine And.intro (fun cz31 => ?_) (fun cz31 => ?_)
      · -- 31 taken: shQ (D 1) k g v ≤ nI 1
        refine And.intro ⟨rfl, trivial, Nat.le_refl _, Nat.le_refl _⟩ ?_
        unfold coF at hQ
        rw [show v = nvl by omega] at cz31
        rw [if_pos cz31] at hQ
        exact hQ
      · -- 31 not: ¬ shQ (D 1) k g v ≤ nI 1
        refine And.intro (fun z => cz31 (by rw [z]; decide)) ?_
        refine And.intro ⟨rfl, trivial, Nat.le_refl _, Nat.le_refl _⟩ ?_
        unfold coF at hQ
        rw [show v = nvl by omega] at cz31 ⊢
        rw [if_neg cz31] at hQ
        exact hQ
    · -- 7 not: ¬ nI nvl ≤ nI v
      have kz7 : v < nvl := knle (a := nvl) (b := v) rfl rfl (by omega) (by omega) cz7
      refine And.intro (fun cz10 => ?_) (fun cz10 => ?_)
      · -- 10 taken: nI v = nI k
        have kz10 : v = k := keq (a := v) (b := k) rfl rfl (by omega) (by omega) cz10
        show Jj sc d 0 0 (mth 114) (pg P114 4).1 [some (.ref 136), some (.int (nI k)), some (.int (nI g)), some (.int (shQ (D 1) k g v)), some (.int (nI v + nI 1))] [] (bput m 136 3 D) 0 0 Q
        rw [show nI v + nI 1 = nI (v + 1) from by simp only [nI_add, pk_mul]]
        have z := ih (v + 1) (by omega) (by omega)
        rw [shQ_s] at z
        unfold shS at z
        rw [if_pos kz10] at z
        exact z
      · -- 10 not: ¬ nI v = nI k
        have kz10 : v ≠ k := kne (a := v) (b := k) rfl rfl (by omega) (by omega) cz10
        refine And.intro (Wdo_136 hW) (Exists.intro _ (And.intro (Wdr_136_0 hW) ?_))
        refine And.intro (Wdi_137 hW (vi rfl (by omega))) ?_
        rw [nI_clamp (show v < 2 ^ 31 by omega)]
        rw [bput_r (x := 136) (f := 1) (by decide)]
        refine And.intro (fun cz16 => ?_) (fun cz16 => ?_)
        · -- 16 taken: ¬ D 1 v = nI g
          show Jj sc d 0 0 (mth 114) (pg P114 4).1 [some (.ref 136), some (.int (nI k)), some (.int (nI g)), some (.int (shQ (D 1) k g v)), some (.int (nI v + nI 1))] [] (bput m 136 3 D) 0 0 Q
          rw [show nI v + nI 1 = nI (v + 1) from by simp only [nI_add, pk_mul]]
          have z := ih (v + 1) (by omega) (by omega)
          rw [shQ_s] at z
          unfold shS at z
          rw [if_neg kz10, if_neg cz16] at z
          exact z
        · -- 16 not: D 1 v = nI g
          show Jj sc d 0 0 (mth 114) (pg P114 4).1 [some (.ref 136), some (.int (nI k)), some (.int (nI g)), some (.int ((shQ (D 1) k g v) + nI 1)), some (.int (nI v + nI 1))] [] (bput m 136 3 D) 0 0 Q
          rw [show nI v + nI 1 = nI (v + 1) from by simp only [nI_add, pk_mul]]
          have z := ih (v + 1) (by omega) (by omega)
          rw [shQ_s] at z
          unfold shS at z
          rw [if_neg kz10, if_pos cz16] at z
          exact z
theorem D114 {d : Nat} {m : Mm} {Q : Option Value → Mm → Prop} {D : Nat → Nat → Int32} {nvl n : Nat} (hW : Wd m.2.2) (hD2 : D 0 2 = nI nvl) (hv4 : nvl ≤ 4) (hD3 : D 0 3 = nI n) (hn6 : n ≤ 6) {k g : Nat} (hk : k < 4) (hg : g < 6) (hQ : Q (some (.int (coF (D 1) (D 2) nvl k g))) (bput m 136 3 D)) : Cc d 0 0 114 [.ref 136, .int (nI k), .int (nI g)] (bput m 136 3 D) Q := by
  refine ent (n := 96) z114 (by decide) rfl (by decide) (Nat.le_of_ble_eq_true rfl) (fun sc => ?_)
  show Jj sc d 0 0 (mth 114) (pg P114 4).1 [some (.ref 136), some (.int (nI k)), some (.int (nI g)), some (.int (nI 1)), some (.int (nI 0))] [] (bput m 136 3 D) 0 0 Q
  exact lq114 hW hD2 hv4 hD3 hn6 hk hg hQ (nvl + 1) 0 (Nat.zero_le _) (by omega)
def bfS (row wor : Nat → Int32) (nvl k : Nat) : Nat → Nat → Nat := fun g b => if coF row wor nvl k g ≤ coF row wor nvl k b then b else g
def bfQ (row wor : Nat → Int32) (nvl k g : Nat) : Nat := fo (bfS row wor nvl k) 0 g
theorem bfQ_s {row wor : Nat → Int32} {nvl k g : Nat} : bfQ row wor nvl k (g + 1) = bfS row wor nvl k g (bfQ row wor nvl k g) := fo_s
theorem bfQ_1 {row wor : Nat → Int32} {nvl k : Nat} : bfQ row wor nvl k 1 = 0 := by
  rw [show (1 : Nat) = 0 + 1 from rfl, bfQ_s]
  unfold bfS
  rw [show bfQ row wor nvl k 0 = 0 from rfl, if_pos (Int32.le_refl _)]
theorem bfQ_l {row wor : Nat → Int32} {nvl k : Nat} : ∀ g, bfQ row wor nvl k g ≤ g - 1
  | 0 => Nat.le_refl _
  | g + 1 => by
    have := bfQ_l (row := row) (wor := wor) (nvl := nvl) (k := k) g
    rw [bfQ_s]
    unfold bfS
    split <;> omega
theorem lq115 {sc : Nat × (Nat → Int32)} {d : Nat} {m : Mm} {Q : Option Value → Mm → Prop} {D : Nat → Nat → Int32} {nvl n : Nat} (hW : Wd m.2.2) (hD2 : D 0 2 = nI nvl) (hv4 : nvl ≤ 4) (hD3 : D 0 3 = nI n) (hn6 : n ≤ 6) {k : Nat} (hd : 1 ≤ d) (hk : k < 4) (hQ : Q (some (.int (nI (bfQ (D 1) (D 2) nvl k n)))) (bput m 136 3 D))  : ∀ (j g : Nat), g ≤ n → n + 1 ≤ g + j → Jj sc d 0 0 (mth 115) (pg P115 4).1 [some (.ref 136), some (.int (nI k)), some (.int (nI ((bfQ (D 1) (D 2) nvl k g)))), some (.int (nI g))] [] (bput m 136 3 D) 0 0 Q := by
  intro j
  induction j with
  | zero => intro g h1 h2; omega
  | succ j ih =>
    intro g h1 h2
    refine J_w z115 (i := 4) (by decide) 66 ?_
    refine And.intro (Wdo_136 hW) ?_
    rw [bput_0 (x := 136) (by decide)]
    rw [hD3]
    refine And.intro (fun cz7 => ?_) (fun cz7 => ?_)
    · -- 7 taken: nI n ≤ nI g
      have kz7 : n ≤ g := kle (a := n) (b := g) rfl rfl (by omega) (by omega) cz7
      refine And.intro ⟨rfl, trivial, Nat.le_refl _, Nat.le_refl _⟩ ?_
      rw [show g = n by omega]
      exact hQ
    · -- 7 not: ¬ nI n ≤ nI g
      have kz7 : g < n := knle (a := n) (b := g) rfl rfl (by omega) (by omega) cz7
      have hb9 := bfQ_l (row := D 1) (wor := D 2) (nvl := nvl) (k := k) g
      refine And.intro ⟨by omega, Nat.le_of_ble_eq_true rfl, Nat.le_refl _, Nat.le_refl _⟩ (And.intro (Wdo_136 hW) ?_)
      refine D114 (k := k) (g := g) hW hD2 hv4 hD3 hn6 (by omega) (by omega) ?_
      refine And.intro ⟨by omega, Nat.le_of_ble_eq_true rfl, Nat.le_refl _, Nat.le_refl _⟩ (And.intro (Wdo_136 hW) ?_)
      refine D114 (k := k) (g := (bfQ (D 1) (D 2) nvl k g)) hW hD2 hv4 hD3 hn6 (by omega) (by omega) ?_
      refine And.intro (fun cz16 => ?_) (fun cz16 => ?_)
      · -- 16 taken: coF (D 1) (D 2) nvl k g ≤ coF (D 1) (D 2) nvl k ((bfQ (D 1) (D 2) nvl k g))
        show Jj sc d 0 0 (mth 115) (pg P115 4).1 [some (.ref 136), some (.int (nI k)), some (.int (nI ((bfQ (D 1) (D 2) nvl k g)))), some (.int (nI g + nI 1))] [] (bput m 136 3 D) 0 0 Q
        rw [show nI g + nI 1 = nI (g + 1) from by simp only [nI_add, pk_mul]]
        have z := ih (g + 1) (by omega) (by omega)
        rw [bfQ_s] at z
        unfold bfS at z
        rw [if_pos cz16] at z
        exact z
      · -- 16 not: ¬ coF (D 1) (D 2) nvl k g ≤ coF (D 1) (D 2) nvl k ((bfQ (D 1) (D 2) nvl k g))
        show Jj sc d 0 0 (mth 115) (pg P115 4).1 [some (.ref 136), some (.int (nI k)), some (.int (nI g)), some (.int (nI g + nI 1))] [] (bput m 136 3 D) 0 0 Q
        rw [show nI g + nI 1 = nI (g + 1) from by simp only [nI_add, pk_mul]]
        have z := ih (g + 1) (by omega) (by omega)
        rw [bfQ_s] at z
        unfold bfS at z
        rw [if_neg cz16] at z
        exact z
theorem D115 {d : Nat} {m : Mm} {Q : Option Value → Mm → Prop} {D : Nat → Nat → Int32} {nvl n : Nat} (hW : Wd m.2.2) (hD2 : D 0 2 = nI nvl) (hv4 : nvl ≤ 4) (hD3 : D 0 3 = nI n) (hn6 : n ≤ 6) {k : Nat} (hd : 1 ≤ d) (hk : k < 4) (hn1 : 1 ≤ n) (hQ : Q (some (.int (nI (bfQ (D 1) (D 2) nvl k n)))) (bput m 136 3 D)) : Cc d 0 0 115 [.ref 136, .int (nI k)] (bput m 136 3 D) Q := by
  refine ent (n := 66) z115 (by decide) rfl (by decide) (Nat.le_of_ble_eq_true rfl) (fun sc => ?_)
  show Jj sc d 0 0 (mth 115) (pg P115 4).1 [some (.ref 136), some (.int (nI k)), some (.int (nI 0)), some (.int (nI 1))] [] (bput m 136 3 D) 0 0 Q
  have z := lq115 (sc := sc) hW hD2 hv4 hD3 hn6 hd hk hQ (n + 1) 1 hn1 (by omega)
  rw [bfQ_1] at z
  exact z
abbrev rvP (row wor : Nat → Int32) (nvl n v : Nat) : Prop := ∀ g, g < n → coF row wor nvl v g ≤ coF row wor nvl v (nv (row v))
abbrev rsP (row wor : Nat → Int32) (nvl n : Nat) : Prop := ∀ v, v < nvl → rvP row wor nvl n v
theorem lq116a {sc : Nat × (Nat → Int32)} {d : Nat} {m : Mm} {Q : Option Value → Mm → Prop} {D : Nat → Nat → Int32} {nvl n : Nat} (hW : Wd m.2.2) (hD2 : D 0 2 = nI nvl) (hv4 : nvl ≤ 4) (hD3 : D 0 3 = nI n) (hn6 : n ≤ 6) (hd : 1 ≤ d) (hro : ∀ v, v < nvl → iR (D 1 v) 6) (hQ : Q (some (.int (bi (rsP (D 1) (D 2) nvl n)))) (bput m 136 3 D)) {v : Nat} (hv : v < nvl) (hk : rvP (D 1) (D 2) nvl n v → Jj sc d 0 0 (mth 116) (pg P116 2).1 [some (.ref 136), some (.int (nI (v + 1))), none, none] [] (bput m 136 3 D) 0 0 Q)  : ∀ (j g : Nat), g ≤ n → n + 1 ≤ g + j → (∀ g1, g1 < g → coF (D 1) (D 2) nvl v g1 ≤ coF (D 1) (D 2) nvl v (nv (D 1 v))) → Jj sc d 0 0 (mth 116) (pg P116 16).1 [some (.ref 136), some (.int (nI v)), some (.int (coF (D 1) (D 2) nvl v (nv (D 1 v)))), some (.int (nI g))] [] (bput m 136 3 D) 0 0 Q := by
  intro j
  induction j with
  | zero => intro g h1 h2 hall; omega
  | succ j ih =>
    intro g h1 h2 hall
    refine J_w z116 (i := 16) (by decide) 88 ?_
    refine And.intro (Wdo_136 hW) ?_
    rw [bput_0 (x := 136) (by decide)]
    rw [hD3]
    refine And.intro (fun cz19 => ?_) (fun cz19 => ?_)
    · -- 19 taken: nI n ≤ nI g
      have kz19 : n ≤ g := kle (a := n) (b := g) rfl rfl (by omega) (by omega) cz19
      show Jj sc d 0 0 (mth 116) (pg P116 2).1 [some (.ref 136), some (.int (nI v + nI 1)), some (.int (coF (D 1) (D 2) nvl v (nv (D 1 v)))), some (.int (nI g))] [] (bput m 136 3 D) 0 0 Q
      rw [show nI v + nI 1 = nI (v + 1) from by simp only [nI_add, pk_mul]]
      refine J_wk (L' := [some (.ref 136), some (.int (nI (v + 1))), none, none]) ⟨rfl, rfl, trivial⟩ ?_
      rw [show g = n by omega] at hall
      exact hk hall
    · -- 19 not: ¬ nI n ≤ nI g
      have kz19 : g < n := knle (a := n) (b := g) rfl rfl (by omega) (by omega) cz19
      refine And.intro ⟨by omega, Nat.le_of_ble_eq_true rfl, Nat.le_refl _, Nat.le_refl _⟩ (And.intro (Wdo_136 hW) ?_)
      refine D114 (k := v) (g := g) hW hD2 hv4 hD3 hn6 (by omega) (by omega) ?_
      refine And.intro (fun cz25 => ?_) (fun cz25 => ?_)
      · -- 25 taken: coF (D 1) (D 2) nvl v g ≤ coF (D 1) (D 2) nvl v (nv (D 1 v))
        show Jj sc d 0 0 (mth 116) (pg P116 16).1 [some (.ref 136), some (.int (nI v)), some (.int (coF (D 1) (D 2) nvl v (nv (D 1 v)))), some (.int (nI g + nI 1))] [] (bput m 136 3 D) 0 0 Q
        rw [show nI g + nI 1 = nI (g + 1) from by simp only [nI_add, pk_mul]]
        have hall2 : ∀ g1, g1 < g + 1 → coF (D 1) (D 2) nvl v g1 ≤ coF (D 1) (D 2) nvl v (nv (D 1 v)) := by
          intro v9 h9
          rcases Nat.lt_or_ge v9 g with q9 | q9
          · exact hall v9 q9
          · have ez9 : v9 = g := by omega
            rw [ez9]
            exact cz25
        exact ih (g + 1) (by omega) (by omega) hall2
      · -- 25 not: ¬ coF (D 1) (D 2) nvl v g ≤ coF (D 1) (D 2) nvl v (nv (D 1 v))
        refine And.intro ⟨rfl, Or.inl rfl, Nat.le_refl _, Nat.le_refl _⟩ ?_
        rw [bi_f (fun z => cz25 (z v hv g (by omega)))] at hQ; exact hQ
theorem lq116b {sc : Nat × (Nat → Int32)} {d : Nat} {m : Mm} {Q : Option Value → Mm → Prop} {D : Nat → Nat → Int32} {nvl n : Nat} (hW : Wd m.2.2) (hD2 : D 0 2 = nI nvl) (hv4 : nvl ≤ 4) (hD3 : D 0 3 = nI n) (hn6 : n ≤ 6) (hd : 1 ≤ d) (hro : ∀ v, v < nvl → iR (D 1 v) 6) (hQ : Q (some (.int (bi (rsP (D 1) (D 2) nvl n)))) (bput m 136 3 D))  : ∀ (j v : Nat), v ≤ nvl → nvl + 1 ≤ v + j → (∀ v1, v1 < v → rvP (D 1) (D 2) nvl n v1) → Jj sc d 0 0 (mth 116) (pg P116 2).1 [some (.ref 136), some (.int (nI v)), none, none] [] (bput m 136 3 D) 0 0 Q := by
  intro j
  induction j with
  | zero => intro v h1 h2 hall; omega
  | succ j ih =>
    intro v h1 h2 hall
    refine J_w z116 (i := 2) (by decide) 88 ?_
    refine And.intro (Wdo_136 hW) ?_
    rw [bput_0 (x := 136) (by decide)]
    rw [hD2]
    refine And.intro (fun cz5 => ?_) (fun cz5 => ?_)
    · -- 5 taken: nI nvl ≤ nI v
      have kz5 : nvl ≤ v := kle (a := nvl) (b := v) rfl rfl (by omega) (by omega) cz5
      refine And.intro ⟨rfl, Or.inr rfl, Nat.le_refl _, Nat.le_refl _⟩ ?_
      rw [show v = nvl by omega] at hall
      rw [bi_t hall] at hQ; exact hQ
    · -- 5 not: ¬ nI nvl ≤ nI v
      have kz5 : v < nvl := knle (a := nvl) (b := v) rfl rfl (by omega) (by omega) cz5
      have h11 := iR_e (hro v (by omega)) (by decide)
      refine And.intro (Wdo_136 hW) (Exists.intro _ (And.intro (Wdr_136_0 hW) ?_))
      refine And.intro (Wdi_137 hW (vi rfl (by omega))) ?_
      rw [nI_clamp (show v < 2 ^ 31 by omega)]
      rw [bput_r (x := 136) (f := 1) (by decide)]
      rw [h11.1]
      refine And.intro ⟨by omega, Nat.le_of_ble_eq_true rfl, Nat.le_refl _, Nat.le_refl _⟩ (And.intro (Wdo_136 hW) ?_)
      refine D114 (k := v) (g := (nv (D 1 v))) hW hD2 hv4 hD3 hn6 (by omega) (by omega) ?_
      show Jj sc d 0 0 (mth 116) (pg P116 16).1 [some (.ref 136), some (.int (nI v)), some (.int (coF (D 1) (D 2) nvl v ((nv (D 1 v))))), some (.int (nI 0))] [] (bput m 136 3 D) 0 0 Q
      refine lq116a hW hD2 hv4 hD3 hn6 hd hro hQ (by omega) (fun hin => ?_) (n + 1) 0 (Nat.zero_le _) (by omega) (fun _ h => absurd h (by omega))
      have hall2 : ∀ v1, v1 < v + 1 → rvP (D 1) (D 2) nvl n v1 := by
        intro v9 h9
        rcases Nat.lt_or_ge v9 v with q9 | q9
        · exact hall v9 q9
        · have ez9 : v9 = v := by omega
          rw [ez9]
          exact hin
      exact ih (v + 1) (by omega) (by omega) hall2
theorem D116 {d : Nat} {m : Mm} {Q : Option Value → Mm → Prop} {D : Nat → Nat → Int32} {nvl n : Nat} (hW : Wd m.2.2) (hD2 : D 0 2 = nI nvl) (hv4 : nvl ≤ 4) (hD3 : D 0 3 = nI n) (hn6 : n ≤ 6) (hd : 1 ≤ d) (hro : ∀ v, v < nvl → iR (D 1 v) 6) (hQ : Q (some (.int (bi (rsP (D 1) (D 2) nvl n)))) (bput m 136 3 D))  : Cc d 0 0 116 [.ref 136] (bput m 136 3 D) Q := by
  refine ent (n := 88) z116 (by decide) rfl (by decide) (Nat.le_of_ble_eq_true rfl) (fun sc => ?_)
  show Jj sc d 0 0 (mth 116) (pg P116 2).1 [some (.ref 136), some (.int (nI 0)), none, none] [] (bput m 136 3 D) 0 0 Q
  exact lq116b hW hD2 hv4 hD3 hn6 hd hro hQ (nvl + 1) 0 (Nat.zero_le _) (by omega) (fun _ h => absurd h (by omega))
def rwF (n u v : Nat) : Int32 := nI (u / n ^ v % n)
theorem dv1 {n u v : Nat} (hu : u < 2 ^ 31) (h0 : 0 < n) (hn : n ≤ 6) : nI (u / n ^ v) / nI n = nI (u / n ^ (v + 1)) := by
  rw [pk_div (Nat.lt_of_le_of_lt (Nat.div_le_self _ _) hu) h0 (by omega), Nat.div_div_eq_div_mul, Nat.pow_succ]
theorem dv2 {n u v : Nat} (hu : u < 2 ^ 31) (h0 : 0 < n) (hn : n ≤ 6) : nI (u / n ^ v) - nI (u / n ^ v) / nI n * nI n = rwF n u v := by
  rw [pk_rem (Nat.lt_of_le_of_lt (Nat.div_le_self _ _) hu) h0 (by omega)]
  rfl
theorem lq118 {sc : Nat × (Nat → Int32)} {d : Nat} {m : Mm} {Q : Option Value → Mm → Prop} {nvl n u : Nat} {R2 R0 : Nat → Int32} (hW : Wd m.2.2) (hv4 : nvl ≤ 4) (hn6 : n ≤ 6) (hn0 : 0 < n) (hu : u < 2 ^ 31) (h02 : R0 2 = nI nvl) (h03 : R0 3 = nI n) (hQ : ∀ D, D 0 = R0 → D 2 = R2 → (∀ v, v < nvl → D 1 v = rwF n u v) → Q none (bput m 136 3 D))  : ∀ (j v : Nat) (D : Nat → Nat → Int32), v ≤ nvl → nvl + 1 ≤ v + j → (D 0 = R0 ∧ D 2 = R2 ∧ ∀ v1, v1 < v → D 1 v1 = rwF n u v1) → Jj sc d 0 0 (mth 118) (pg P118 4).1 [some (.ref 136), some (.int (nI u)), some (.int (nI (u / n ^ v))), some (.int (nI v))] [] (bput m 136 3 D) 0 0 Q := by
  intro j
  induction j with
  | zero => intro v D h1 h2 hall; omega
  | succ j ih =>
    intro v D h1 h2 hall
    refine J_w z118 (i := 4) (by decide) 74 ?_
    have hD2 : D 0 2 = nI nvl := by rw [hall.1]; exact h02
    have hD3 : D 0 3 = nI n := by rw [hall.1]; exact h03
    refine And.intro (Wdo_136 hW) ?_
    rw [bput_0 (x := 136) (by decide)]
    rw [hD2]
    refine And.intro (fun cz7 => ?_) (fun cz7 => ?_)
    · -- 7 taken: nI nvl ≤ nI v
      have kz7 : nvl ≤ v := kle (a := nvl) (b := v) rfl rfl (by omega) (by omega) cz7
      refine And.intro ⟨rfl, rfl, Nat.le_refl _, Nat.le_refl _⟩ ?_
      rw [show v = nvl by omega] at hall
      exact hQ D hall.1 hall.2.1 hall.2.2
    · -- 7 not: ¬ nI nvl ≤ nI v
      have kz7 : v < nvl := knle (a := nvl) (b := v) rfl rfl (by omega) (by omega) cz7
      refine And.intro (Wdo_136 hW) ?_
      rw [bput_0 (x := 136) (by decide)]
      rw [hD3]
      refine And.intro (fun cz10 => ?_) (fun cz10 => ?_)
      · -- 10 taken: nI n ≤ 0
        have kz10 : n ≤ 0 := kle (a := n) (b := 0) rfl rfl (by omega) (by omega) cz10
        refine And.intro ⟨rfl, rfl, Nat.le_refl _, Nat.le_refl _⟩ ?_
        exact absurd kz10 (by omega)
      · -- 10 not: ¬ nI n ≤ 0
        have kz10 : 0 < n := knle (a := n) (b := 0) rfl rfl (by omega) (by omega) cz10
        refine And.intro (Wdo_136 hW) (Exists.intro _ (And.intro (Wdr_136_0 hW) ?_))
        refine And.intro (Wdo_136 hW) ?_
        rw [bput_0 (x := 136) (by decide)]
        rw [hD3]
        refine And.intro (nI_ne0 hn0 (by omega)) ?_
        refine And.intro (Wdi_137 hW (vi rfl (by omega))) ?_
        rw [nI_clamp (show v < 2 ^ 31 by omega)]
        rw [bput_u (x := 136) (f := 1) (by decide)]
        refine And.intro (Wdo_136 hW) ?_
        rw [bput_0 (x := 136) (by decide)]
        rw [ud_ne (D := D) (f := 1) (g := 0) (by decide)]
        rw [hD3]
        refine And.intro (nI_ne0 hn0 (by omega)) ?_
        show Jj sc d 0 0 (mth 118) (pg P118 4).1 [some (.ref 136), some (.int (nI u)), some (.int ((nI (u / n ^ v)) / nI n)), some (.int (nI v + nI 1))] [] (bput m 136 3 (ud D 1 v ((nI (u / n ^ v)) - (nI (u / n ^ v)) / nI n * nI n))) 0 0 Q
        rw [show nI v + nI 1 = nI (v + 1) from by simp only [nI_add, pk_mul]]
        rw [dv2 (n := n) (u := u) (v := v) hu hn0 hn6, dv1 (n := n) (u := u) (v := v) hu hn0 hn6]
        refine ih (v + 1) _ (by omega) (by omega) ⟨hall.1, hall.2.1, fun v1 h9 => ?_⟩
        show upd (D 1) v _ v1 = _
        by_cases ez9 : v1 = v
        · rw [ez9, upd_e]
        · rw [upd_o ez9]; exact hall.2.2 v1 (by omega)
theorem D118 {d : Nat} {m : Mm} {Q : Option Value → Mm → Prop} {nvl n u : Nat} {R2 R0 : Nat → Int32} (hW : Wd m.2.2) (hv4 : nvl ≤ 4) (hn6 : n ≤ 6) (hn0 : 0 < n) (hu : u < 2 ^ 31) (h02 : R0 2 = nI nvl) (h03 : R0 3 = nI n) (hQ : ∀ D, D 0 = R0 → D 2 = R2 → (∀ v, v < nvl → D 1 v = rwF n u v) → Q none (bput m 136 3 D)) {D : Nat → Nat → Int32} (hD0 : D 0 = R0) (hD2 : D 2 = R2) : Cc d 0 0 118 [.ref 136, .int (nI u)] (bput m 136 3 D) Q := by
  refine ent (n := 74) z118 (by decide) rfl (by decide) (Nat.le_of_ble_eq_true rfl) (fun sc => ?_)
  show Jj sc d 0 0 (mth 118) (pg P118 4).1 [some (.ref 136), some (.int (nI u)), some (.int (nI u)), some (.int (nI 0))] [] (bput m 136 3 D) 0 0 Q
  have z := lq118 (sc := sc) (d := d) hW hv4 hn6 hn0 hu h02 h03 hQ (nvl + 1) 0 D (Nat.zero_le _) (by omega) ⟨hD0, hD2, fun _ h => absurd h (by omega)⟩
  rw [Nat.pow_zero, Nat.div_one] at z
  exact z
theorem shQ_c {r r' : Nat → Int32} {k g : Nat} : ∀ {v : Nat}, (∀ i, i < v → r i = r' i) → shQ r k g v = shQ r' k g v
  | 0, _ => rfl
  | v + 1, h => by
    rw [shQ_s, shQ_s, shQ_c (fun i hi => h i (by omega))]
    unfold shS
    rw [h v (by omega)]
theorem coF_c {r r' wor : Nat → Int32} {nvl k g : Nat} (h : ∀ i, i < nvl → r i = r' i) : coF r wor nvl k g = coF r' wor nvl k g := by
  unfold coF
  rw [shQ_c h]
theorem rsP_c {r r' wor : Nat → Int32} {nvl n : Nat} (h : ∀ i, i < nvl → r i = r' i) : rsP r wor nvl n ↔ rsP r' wor nvl n := by
  constructor
  · intro z v hv g hg
    have := z v hv g hg
    rw [coF_c h, coF_c h, h v hv] at this
    exact this
  · intro z v hv g hg
    rw [coF_c h, coF_c h, h v hv]
    exact z v hv g hg
noncomputable def crS (wor : Nat → Int32) (nvl n : Nat) : Nat → Int32 → Int32 := fun u y => if bi (rsP (rwF n u) wor nvl n) = 0 then y else y + nI 1
noncomputable def crQ (wor : Nat → Int32) (nvl n u : Nat) : Int32 := fo (crS wor nvl n) (nI 0) u
theorem crQ_s {wor : Nat → Int32} {nvl n u : Nat} : crQ wor nvl n (u + 1) = crS wor nvl n u (crQ wor nvl n u) := fo_s
theorem pw64 {n v : Nat} (hn : n ≤ 6) (hv : v ≤ 4) : n ^ v ≤ 1296 := by
  have h1 : n ^ v ≤ 6 ^ v := Nat.pow_le_pow_left hn v
  have h2 : 6 ^ v ≤ 6 ^ 4 := Nat.pow_le_pow_right (by decide) hv
  have h3 : (6 : Nat) ^ 4 = 1296 := by decide
  omega
theorem lq117b {sc : Nat × (Nat → Int32)} {m : Mm} {Q : Option Value → Mm → Prop} {d nvl n : Nat} {R2 R0 : Nat → Int32} (hW : Wd m.2.2) (hd : 2 ≤ d) (hv4 : nvl ≤ 4) (hn6 : n ≤ 6) (hn0 : 0 < n) (h02 : R0 2 = nI nvl) (h03 : R0 3 = nI n) (hQ : ∀ D, Q (some (.int (crQ R2 nvl n (n ^ nvl)))) (bput m 136 3 D)) (hp : n ^ nvl ≤ 1296)  : ∀ (j u : Nat) (D : Nat → Nat → Int32), u ≤ n ^ nvl → n ^ nvl + 1 ≤ u + j → (D 0 = R0 ∧ D 2 = R2) → Jj sc d 0 0 (mth 117) (pg P117 19).1 [some (.ref 136), some (.int (nI ((n ^ nvl)))), some (.int (crQ R2 nvl n u)), some (.int (nI u))] [] (bput m 136 3 D) 0 0 Q := by
  intro j
  induction j with
  | zero => intro u D h1 h2 hall; omega
  | succ j ih =>
    intro u D h1 h2 hall
    refine J_w z117 (i := 19) (by decide) 86 ?_
    have hD2 : D 0 2 = nI nvl := by rw [hall.1]; exact h02
    have hD3 : D 0 3 = nI n := by rw [hall.1]; exact h03
    refine And.intro (fun cz21 => ?_) (fun cz21 => ?_)
    · -- 21 taken: nI ((n ^ nvl)) ≤ nI u
      have kz21 : (n ^ nvl) ≤ u := kle (a := (n ^ nvl)) (b := u) rfl rfl (by omega) (by omega) cz21
      refine And.intro ⟨rfl, trivial, Nat.le_refl _, Nat.le_refl _⟩ ?_
      rw [show u = n ^ nvl by omega]
      exact hQ D
    · -- 21 not: ¬ nI ((n ^ nvl)) ≤ nI u
      have kz21 : u < (n ^ nvl) := knle (a := (n ^ nvl)) (b := u) rfl rfl (by omega) (by omega) cz21
      refine And.intro ⟨by omega, Nat.le_of_ble_eq_true rfl, Nat.le_refl _, Nat.le_refl _⟩ (And.intro (Wdo_136 hW) ?_)
      refine D118 (u := u) (nvl := nvl) (n := n) hW hv4 hn6 hn0 (by omega) h02 h03 (fun D1 ez0 ez2 ez1 => ?_) hall.1 hall.2
      refine And.intro ⟨by omega, Nat.le_of_ble_eq_true rfl, Nat.le_refl _, Nat.le_refl _⟩ (And.intro (Wdo_136 hW) ?_)
      refine D116 (nvl := nvl) (n := n) hW (by rw [ez0]; exact h02) hv4 (by rw [ez0]; exact h03) hn6 (by omega) (fun v hv => ⟨_, Nat.lt_of_lt_of_le (Nat.mod_lt _ hn0) hn6, ez1 v hv⟩) ?_
      refine And.intro (fun cz27 => ?_) (fun cz27 => ?_)
      · -- 27 taken: bi (rsP (D1 1) (D1 2) nvl n) = 0
        show Jj sc d 0 0 (mth 117) (pg P117 19).1 [some (.ref 136), some (.int (nI ((n ^ nvl)))), some (.int (crQ R2 nvl n u)), some (.int (nI u + nI 1))] [] (bput m 136 3 D1) 0 0 Q
        rw [show nI u + nI 1 = nI (u + 1) from by simp only [nI_add, pk_mul]]
        have z := ih (u + 1) D1 (by omega) (by omega) ⟨ez0, ez2⟩
        rw [crQ_s] at z
        unfold crS at z
        rw [ez2, bi_c (rsP_c (r' := rwF n u) ez1)] at cz27
        rw [if_pos cz27] at z
        exact z
      · -- 27 not: ¬ bi (rsP (D1 1) (D1 2) nvl n) = 0
        show Jj sc d 0 0 (mth 117) (pg P117 19).1 [some (.ref 136), some (.int (nI ((n ^ nvl)))), some (.int ((crQ R2 nvl n u) + nI 1)), some (.int (nI u + nI 1))] [] (bput m 136 3 D1) 0 0 Q
        rw [show nI u + nI 1 = nI (u + 1) from by simp only [nI_add, pk_mul]]
        have z := ih (u + 1) D1 (by omega) (by omega) ⟨ez0, ez2⟩
        rw [crQ_s] at z
        unfold crS at z
        rw [ez2, bi_c (rsP_c (r' := rwF n u) ez1)] at cz27
        rw [if_neg cz27] at z
        exact z
theorem lq117a {sc : Nat × (Nat → Int32)} {m : Mm} {Q : Option Value → Mm → Prop} {d nvl n : Nat} {R2 R0 : Nat → Int32} (hW : Wd m.2.2) (hd : 2 ≤ d) (hv4 : nvl ≤ 4) (hn6 : n ≤ 6) (hn0 : 0 < n) (h02 : R0 2 = nI nvl) (h03 : R0 3 = nI n) (hQ : ∀ D, Q (some (.int (crQ R2 nvl n (n ^ nvl)))) (bput m 136 3 D)) (hp : n ^ nvl ≤ 1296) {D : Nat → Nat → Int32} (hall : D 0 = R0 ∧ D 2 = R2)  : ∀ (j v : Nat), v ≤ nvl → nvl + 1 ≤ v + j → Jj sc d 0 0 (mth 117) (pg P117 4).1 [some (.ref 136), some (.int (nI ((n ^ v)))), some (.int (nI v)), none] [] (bput m 136 3 D) 0 0 Q := by
  intro j
  induction j with
  | zero => intro v h1 h2; omega
  | succ j ih =>
    intro v h1 h2
    refine J_w z117 (i := 4) (by decide) 86 ?_
    have hD2 : D 0 2 = nI nvl := by rw [hall.1]; exact h02
    have hD3 : D 0 3 = nI n := by rw [hall.1]; exact h03
    refine And.intro (Wdo_136 hW) ?_
    rw [bput_0 (x := 136) (by decide)]
    rw [hD2]
    refine And.intro (fun cz7 => ?_) (fun cz7 => ?_)
    · -- 7 taken: nI nvl ≤ nI v
      have kz7 : nvl ≤ v := kle (a := nvl) (b := v) rfl rfl (by omega) (by omega) cz7
      show Jj sc d 0 0 (mth 117) (pg P117 19).1 [some (.ref 136), some (.int (nI ((n ^ v)))), some (.int (nI 0)), some (.int (nI 0))] [] (bput m 136 3 D) 0 0 Q
      rw [show v = nvl by omega]
      exact lq117b hW hd hv4 hn6 hn0 h02 h03 hQ hp (n ^ nvl + 1) 0 D (Nat.zero_le _) (by omega) hall
    · -- 7 not: ¬ nI nvl ≤ nI v
      have kz7 : v < nvl := knle (a := nvl) (b := v) rfl rfl (by omega) (by omega) cz7
      refine And.intro (Wdo_136 hW) ?_
      rw [bput_0 (x := 136) (by decide)]
      rw [hD3]
      show Jj sc d 0 0 (mth 117) (pg P117 4).1 [some (.ref 136), some (.int (nI (n ^ v) * nI n)), some (.int (nI v + nI 1)), none] [] (bput m 136 3 D) 0 0 Q
      rw [show nI v + nI 1 = nI (v + 1) from by simp only [nI_add, pk_mul]]
      rw [pk_mul, ← Nat.pow_succ]
      exact ih (v + 1) (by omega) (by omega)
theorem D117 {m : Mm} {Q : Option Value → Mm → Prop} {d nvl n : Nat} {R2 R0 : Nat → Int32} (hW : Wd m.2.2) (hd : 2 ≤ d) (hv4 : nvl ≤ 4) (hn6 : n ≤ 6) (hn0 : 0 < n) (h02 : R0 2 = nI nvl) (h03 : R0 3 = nI n) (hQ : ∀ D, Q (some (.int (crQ R2 nvl n (n ^ nvl)))) (bput m 136 3 D)) {D : Nat → Nat → Int32} (hD0 : D 0 = R0) (hD2 : D 2 = R2) : Cc d 0 0 117 [.ref 136] (bput m 136 3 D) Q := by
  refine ent (n := 86) z117 (by decide) rfl (by decide) (Nat.le_of_ble_eq_true rfl) (fun sc => ?_)
  show Jj sc d 0 0 (mth 117) (pg P117 4).1 [some (.ref 136), some (.int (nI 1)), some (.int (nI 0)), none] [] (bput m 136 3 D) 0 0 Q
  have z := lq117a (sc := sc) hW hd hv4 hn6 hn0 h02 h03 hQ (pw64 hn6 hv4) ⟨hD0, hD2⟩ (nvl + 1) 0 (Nat.zero_le _) (by omega)
  rw [Nat.pow_zero] at z
  exact z
