/-! ===== villages ===== -/
def wsQ (off : Nat → Int32) (g s t : Nat) : Int32 := fo (fun t y => y + bcF (off ((g * 6 + t) * 5 + s))) (nI 0) t
theorem wsQ_s {off : Nat → Int32} {g s t : Nat} : wsQ off g s (t + 1) = wsQ off g s t + bcF (off ((g * 6 + t) * 5 + s)) := fo_s
abbrev slP (Λ Ψ : Nat → Nat → Int32) (g : Nat) : Prop := Λ 3 g = nI 3 ∨ bq (Ψ 0 1) (nI g)
noncomputable def woF (Λ Ψ : Nat → Nat → Int32) (nt v g : Nat) : Int32 := if bi (slP Λ Ψ g) = 0 then wsQ (Λ 7) g (nv (Λ 2 (nv (Λ 11 v)))) nt else nI 0
abbrev lkP (Λ Ψ : Nat → Nat → Int32) (nt n k : Nat) (D : Nat → Nat → Int32) : Prop := ∀ v, v < k → D 1 v = Ψ 3 v ∧ ∀ g, g < n → D 2 (v * 6 + g) = woF Λ Ψ nt v g
theorem upd_n {f : Nat → Int32} {k : Nat} {x : Int32} : upd f k x k = x := if_pos rfl
theorem lq113a {sc : Nat × (Nat → Int32)} {d : Nat} {m : Mm} {Q : Option Value → Mm → Prop} {a b n nt nvl : Nat} (hd : 2 ≤ d) (hW : Wd m.2.2) (hL : LW m.2.2 a) (hB : SW m.2.2 b) (ha : a + 19 ≤ 136) (hb : b + 4 ≤ 136) (hnt : mI m (a + 1) 2 = nI nt) (hnt6 : nt ≤ 6) (hn : mI m (a + 1) 4 = nI n) (hn6 : n ≤ 6) (hv : mI m (a + 1) 10 = nI nvl) (hv4 : nvl ≤ 4) (hho : ∀ v, v < nvl → iR (mI m (a + 11) v) 24) (hce : ∀ c, c < 24 → iR (mI m (a + 2) c) 5) {D : Nat → Nat → Int32} {v g : Nat} (hvl : v < nvl) (hg : g < n) (hs5 : (nv (mI m (a + 2) (nv (mI m (a + 11) v)))) < 5) (hk : Jj sc d 0 0 (mth 113) (pg P113 31).1 [some (.ref 136), some (.ref a), some (.ref b), some (.int (nI v)), some (.int (nI ((nv (mI m (a + 2) (nv (mI m (a + 11) v))))))), some (.int (nI (g + 1))), none, none] [] (bput m 136 3 (ud D 2 (v * 6 + g) (woF (lam m a) (lam m b) nt v g))) 0 0 Q)  : ∀ (j t : Nat), t ≤ nt → nt + 1 ≤ t + j → Jj sc d 0 0 (mth 113) (pg P113 39).1 [some (.ref 136), some (.ref a), some (.ref b), some (.int (nI v)), some (.int (nI ((nv (mI m (a + 2) (nv (mI m (a + 11) v))))))), some (.int (nI g)), some (.int (wsQ (mI m (a + 7)) g (nv (mI m (a + 2) (nv (mI m (a + 11) v)))) t)), some (.int (nI t))] [] (bput m 136 3 D) 0 0 Q := by
  intro j
  induction j with
  | zero => intro t h1 h2; omega
  | succ j ih =>
    intro t h1 h2
    refine J_w z113 (i := 39) (by decide) 170 ?_
    refine And.intro ⟨by omega, Nat.le_of_ble_eq_true rfl, Nat.le_refl _, Nat.le_refl _⟩ (And.intro (LWo_0 hL) ?_)
    refine C22 (m := (bput m 136 3 D)) hL ?_
    rw [bput_lo (m := m) (x := 136) (n := 3) (D := D) (b := (a + 1)) (by omega)]
    rw [hnt]
    refine And.intro (fun cz42 => ?_) (fun cz42 => ?_)
    · -- 42 taken: nI nt ≤ nI t
      have kz42 : nt ≤ t := kle (a := nt) (b := t) rfl rfl (by omega) (by omega) cz42
      refine And.intro (Wdo_136 hW) (Exists.intro _ (And.intro (Wdr_136_1 hW) ?_))
      refine And.intro ⟨by omega, Nat.le_of_ble_eq_true rfl, Nat.le_refl _, Nat.le_refl _⟩ (And.intro (LWo_0 hL) ?_)
      refine C34 (m := (bput m 136 3 D)) (g := g) (by omega) hL hB (by omega) ?_
      rw [bput_lo (b := a + 3) (by omega), bput_lo (b := b) (by omega)]
      refine And.intro (fun cz65 => ?_) (fun cz65 => ?_)
      · -- 65 taken: bi (slP (lam m a) (lam m b) g) = 0
        have ez69 : (nI v * nI 6) + nI g = nI (v * 6 + g) := by simp only [nI_add, pk_mul]
        refine And.intro (Wdi_138 hW (vi ez69 (by omega))) ?_
        rw [vc ez69 (by omega)]
        rw [bput_u (x := 136) (f := 2) (by decide)]
        show Jj sc d 0 0 (mth 113) (pg P113 31).1 [some (.ref 136), some (.ref a), some (.ref b), some (.int (nI v)), some (.int (nI ((nv (mI m (a + 2) (nv (mI m (a + 11) v))))))), some (.int (nI g + nI 1)), some (.int (wsQ (mI m (a + 7)) g (nv (mI m (a + 2) (nv (mI m (a + 11) v)))) t)), some (.int (nI t))] [] (bput m 136 3 (ud D 2 (v * 6 + g) (wsQ (mI m (a + 7)) g (nv (mI m (a + 2) (nv (mI m (a + 11) v)))) t))) 0 0 Q
        rw [show nI g + nI 1 = nI (g + 1) from by simp only [nI_add, pk_mul]]
        refine J_wk (L' := [some (.ref 136), some (.ref a), some (.ref b), some (.int (nI v)), some (.int (nI ((nv (mI m (a + 2) (nv (mI m (a + 11) v))))))), some (.int (nI (g + 1))), none, none]) ⟨rfl, rfl, rfl, rfl, rfl, rfl, trivial⟩ ?_
        unfold woF at hk
        rw [if_pos (show bi (slP (lam m a) (lam m b) g) = 0 from cz65)] at hk
        rw [show t = nt by omega]
        exact hk
      · -- 65 not: ¬ bi (slP (lam m a) (lam m b) g) = 0
        have ez69 : (nI v * nI 6) + nI g = nI (v * 6 + g) := by simp only [nI_add, pk_mul]
        refine And.intro (Wdi_138 hW (vi ez69 (by omega))) ?_
        rw [vc ez69 (by omega)]
        rw [bput_u (x := 136) (f := 2) (by decide)]
        show Jj sc d 0 0 (mth 113) (pg P113 31).1 [some (.ref 136), some (.ref a), some (.ref b), some (.int (nI v)), some (.int (nI ((nv (mI m (a + 2) (nv (mI m (a + 11) v))))))), some (.int (nI g + nI 1)), some (.int (wsQ (mI m (a + 7)) g (nv (mI m (a + 2) (nv (mI m (a + 11) v)))) t)), some (.int (nI t))] [] (bput m 136 3 (ud D 2 (v * 6 + g) (nI 0))) 0 0 Q
        rw [show nI g + nI 1 = nI (g + 1) from by simp only [nI_add, pk_mul]]
        refine J_wk (L' := [some (.ref 136), some (.ref a), some (.ref b), some (.int (nI v)), some (.int (nI ((nv (mI m (a + 2) (nv (mI m (a + 11) v))))))), some (.int (nI (g + 1))), none, none]) ⟨rfl, rfl, rfl, rfl, rfl, rfl, trivial⟩ ?_
        unfold woF at hk
        rw [if_neg (show ¬ bi (slP (lam m a) (lam m b) g) = 0 from cz65)] at hk
        exact hk
    · -- 42 not: ¬ nI nt ≤ nI t
      have kz42 : t < nt := knle (a := nt) (b := t) rfl rfl (by omega) (by omega) cz42
      refine And.intro ⟨by omega, Nat.le_of_ble_eq_true rfl, Nat.le_refl _, Nat.le_refl _⟩ (And.intro (LWo_0 hL) ?_)
      refine C29 (m := (bput m 136 3 D)) (g := g) (t := t) (s := (nv (mI m (a + 2) (nv (mI m (a + 11) v))))) hL (by omega) (by omega) (by omega) ?_
      rw [bput_lo (m := m) (x := 136) (n := 3) (D := D) (b := (a + 7)) (by omega)]
      refine And.intro ⟨by omega, Nat.le_of_ble_eq_true rfl, Nat.le_refl _, Nat.le_refl _⟩ ?_
      refine C340 (m := (bput m 136 3 D)) ?_
      show Jj sc d 0 0 (mth 113) (pg P113 39).1 [some (.ref 136), some (.ref a), some (.ref b), some (.int (nI v)), some (.int (nI ((nv (mI m (a + 2) (nv (mI m (a + 11) v))))))), some (.int (nI g)), some (.int ((wsQ (mI m (a + 7)) g (nv (mI m (a + 2) (nv (mI m (a + 11) v)))) t) + (bcF (mI m (a + 7) ((g * 6 + t) * 5 + ((nv (mI m (a + 2) (nv (mI m (a + 11) v)))))))))), some (.int (nI t + nI 1))] [] (bput m 136 3 D) 0 0 Q
      rw [show nI t + nI 1 = nI (t + 1) from by simp only [nI_add, pk_mul]]
      have z := ih (t + 1) (by omega) (by omega)
      rw [wsQ_s] at z
      exact z
theorem lq113b {sc : Nat × (Nat → Int32)} {d : Nat} {m : Mm} {Q : Option Value → Mm → Prop} {a b n nt nvl : Nat} (hd : 2 ≤ d) (hW : Wd m.2.2) (hL : LW m.2.2 a) (hB : SW m.2.2 b) (ha : a + 19 ≤ 136) (hb : b + 4 ≤ 136) (hnt : mI m (a + 1) 2 = nI nt) (hnt6 : nt ≤ 6) (hn : mI m (a + 1) 4 = nI n) (hn6 : n ≤ 6) (hv : mI m (a + 1) 10 = nI nvl) (hv4 : nvl ≤ 4) (hho : ∀ v, v < nvl → iR (mI m (a + 11) v) 24) (hce : ∀ c, c < 24 → iR (mI m (a + 2) c) 5) {v : Nat} (hvl : v < nvl) (hs5 : (nv (mI m (a + 2) (nv (mI m (a + 11) v)))) < 5) (hk : ∀ D, D 0 2 = nI nvl → D 0 3 = nI n → lkP (lam m a) (lam m b) nt n (v + 1) D → Jj sc d 0 0 (mth 113) (pg P113 10).1 [some (.ref 136), some (.ref a), some (.ref b), some (.int (nI (v + 1))), none, none, none, none] [] (bput m 136 3 D) 0 0 Q)  : ∀ (j g : Nat) (D : Nat → Nat → Int32), g ≤ n → n + 1 ≤ g + j → (D 0 2 = nI nvl ∧ D 0 3 = nI n ∧ lkP (lam m a) (lam m b) nt n v D ∧ D 1 v = lam m b 3 v ∧ ∀ g1, g1 < g → D 2 (v * 6 + g1) = woF (lam m a) (lam m b) nt v g1) → Jj sc d 0 0 (mth 113) (pg P113 31).1 [some (.ref 136), some (.ref a), some (.ref b), some (.int (nI v)), some (.int (nI ((nv (mI m (a + 2) (nv (mI m (a + 11) v))))))), some (.int (nI g)), none, none] [] (bput m 136 3 D) 0 0 Q := by
  intro j
  induction j with
  | zero => intro g D h1 h2 hall; omega
  | succ j ih =>
    intro g D h1 h2 hall
    refine J_w z113 (i := 31) (by decide) 170 ?_
    have hD2 := hall.1
    have hD3 := hall.2.1
    refine And.intro (Wdo_136 hW) ?_
    rw [bput_0 (x := 136) (by decide)]
    rw [hD3]
    refine And.intro (fun cz34 => ?_) (fun cz34 => ?_)
    · -- 34 taken: nI n ≤ nI g
      have kz34 : n ≤ g := kle (a := n) (b := g) rfl rfl (by omega) (by omega) cz34
      show Jj sc d 0 0 (mth 113) (pg P113 10).1 [some (.ref 136), some (.ref a), some (.ref b), some (.int (nI v + nI 1)), some (.int (nI ((nv (mI m (a + 2) (nv (mI m (a + 11) v))))))), some (.int (nI g)), none, none] [] (bput m 136 3 D) 0 0 Q
      rw [show nI v + nI 1 = nI (v + 1) from by simp only [nI_add, pk_mul]]
      refine J_wk (L' := [some (.ref 136), some (.ref a), some (.ref b), some (.int (nI (v + 1))), none, none, none, none]) ⟨rfl, rfl, rfl, rfl, trivial⟩ ?_
      refine hk D hD2 hD3 (fun v1 hv1 => ?_)
      by_cases ez9 : v1 = v
      · rw [ez9]; exact ⟨hall.2.2.2.1, fun g1 hg1 => hall.2.2.2.2 g1 (by omega)⟩
      · exact hall.2.2.1 v1 (by omega)
    · -- 34 not: ¬ nI n ≤ nI g
      have kz34 : g < n := knle (a := n) (b := g) rfl rfl (by omega) (by omega) cz34
      show Jj sc d 0 0 (mth 113) (pg P113 39).1 [some (.ref 136), some (.ref a), some (.ref b), some (.int (nI v)), some (.int (nI ((nv (mI m (a + 2) (nv (mI m (a + 11) v))))))), some (.int (nI g)), some (.int (nI 0)), some (.int (nI 0))] [] (bput m 136 3 D) 0 0 Q
      refine lq113a hd hW hL hB ha hb hnt hnt6 hn hn6 hv hv4 hho hce hvl (by omega) hs5 (ih (g + 1) _ (by omega) (by omega) ⟨hD2, hD3, fun v1 hv1 => ⟨(hall.2.2.1 v1 hv1).1, fun g1 hg1 => ?_⟩, hall.2.2.2.1, fun g1 hg1 => ?_⟩) (nt + 1) 0 (Nat.zero_le _) (by omega)
      · show upd (D 2) (v * 6 + g) _ (v1 * 6 + g1) = _
        rw [upd_o (by omega)]
        exact (hall.2.2.1 v1 hv1).2 g1 hg1
      · show upd (D 2) (v * 6 + g) _ (v * 6 + g1) = _
        by_cases ez9 : g1 = g
        · rw [ez9, upd_e]
        · rw [upd_o (by omega)]
          exact hall.2.2.2.2 g1 (by omega)
theorem lq113c {sc : Nat × (Nat → Int32)} {d : Nat} {m : Mm} {Q : Option Value → Mm → Prop} {a b n nt nvl : Nat} (hd : 2 ≤ d) (hW : Wd m.2.2) (hL : LW m.2.2 a) (hB : SW m.2.2 b) (ha : a + 19 ≤ 136) (hb : b + 4 ≤ 136) (hnt : mI m (a + 1) 2 = nI nt) (hnt6 : nt ≤ 6) (hn : mI m (a + 1) 4 = nI n) (hn6 : n ≤ 6) (hv : mI m (a + 1) 10 = nI nvl) (hv4 : nvl ≤ 4) (hho : ∀ v, v < nvl → iR (mI m (a + 11) v) 24) (hce : ∀ c, c < 24 → iR (mI m (a + 2) c) 5) (hQ : ∀ D, D 0 2 = nI nvl → D 0 3 = nI n → lkP (lam m a) (lam m b) nt n nvl D → Q none (bput m 136 3 D))  : ∀ (j v : Nat) (D : Nat → Nat → Int32), v ≤ nvl → nvl + 1 ≤ v + j → (D 0 2 = nI nvl ∧ D 0 3 = nI n ∧ lkP (lam m a) (lam m b) nt n v D) → Jj sc d 0 0 (mth 113) (pg P113 10).1 [some (.ref 136), some (.ref a), some (.ref b), some (.int (nI v)), none, none, none, none] [] (bput m 136 3 D) 0 0 Q := by
  intro j
  induction j with
  | zero => intro v D h1 h2 hall; omega
  | succ j ih =>
    intro v D h1 h2 hall
    refine J_w z113 (i := 10) (by decide) 170 ?_
    have hD2 := hall.1
    have hD3 := hall.2.1
    refine And.intro (Wdo_136 hW) ?_
    rw [bput_0 (x := 136) (by decide)]
    rw [hD2]
    refine And.intro (fun cz13 => ?_) (fun cz13 => ?_)
    · -- 13 taken: nI nvl ≤ nI v
      have kz13 : nvl ≤ v := kle (a := nvl) (b := v) rfl rfl (by omega) (by omega) cz13
      refine And.intro ⟨rfl, rfl, Nat.le_refl _, Nat.le_refl _⟩ ?_
      rw [show v = nvl by omega] at hall
      exact hQ D hD2 hD3 hall.2.2
    · -- 13 not: ¬ nI nvl ≤ nI v
      have kz13 : v < nvl := knle (a := nvl) (b := v) rfl rfl (by omega) (by omega) cz13
      have h11 := iR_e (hho v (by omega)) (by decide)
      have h02 := iR_e (hce _ h11.2) (by decide)
      refine And.intro (Wdo_136 hW) (Exists.intro _ (And.intro (Wdr_136_0 hW) ?_))
      refine And.intro (SWo_0 hB) (Exists.intro _ (And.intro (SWr_0_4 hB) ?_))
      refine And.intro (SWi_3 hB (vi rfl (by omega))) ?_
      rw [nI_clamp (show v < 2 ^ 31 by omega)]
      rw [bput_lo (m := m) (x := 136) (n := 3) (D := D) (b := (b + 3)) (by omega)]
      refine And.intro (Wdi_137 hW (vi rfl (by omega))) ?_
      rw [nI_clamp (show v < 2 ^ 31 by omega)]
      rw [bput_u (x := 136) (f := 1) (by decide)]
      refine And.intro (LWo_0 hL) (Exists.intro _ (And.intro (LWr_0_14 hL) ?_))
      refine And.intro (LWi_11 hL (vi rfl (by omega))) ?_
      rw [nI_clamp (show v < 2 ^ 31 by omega)]
      rw [bput_lo (m := m) (x := 136) (n := 3) (D := (ud D 1 v (mI m (b + 3) v))) (b := (a + 11)) (by omega)]
      rw [h11.1]
      refine And.intro ⟨by omega, Nat.le_of_ble_eq_true rfl, Nat.le_refl _, Nat.le_refl _⟩ (And.intro (LWo_0 hL) ?_)
      refine C26 (m := (bput m 136 3 (ud D 1 v (mI m (b + 3) v)))) (c := (nv (mI m (a + 11) v))) hL h11.2 ?_
      rw [bput_lo (m := m) (x := 136) (n := 3) (D := (ud D 1 v (mI m (b + 3) v))) (b := (a + 2)) (by omega)]
      rw [h02.1]
      show Jj sc d 0 0 (mth 113) (pg P113 31).1 [some (.ref 136), some (.ref a), some (.ref b), some (.int (nI v)), some (.int (nI ((nv (mI m (a + 2) (nv (mI m (a + 11) v))))))), some (.int (nI 0)), none, none] [] (bput m 136 3 (ud D 1 v (mI m (b + 3) v))) 0 0 Q
      have z2 := lq113b (sc := sc) hd hW hL hB ha hb hnt hnt6 hn hn6 hv hv4 hho hce (v := v) (by omega) h02.2 (fun D h2 h3 h4 => ih (v + 1) D (by omega) (by omega) ⟨h2, h3, h4⟩) (n + 1) 0 (ud D 1 v (mI m (b + 3) v)) (Nat.zero_le _) (by omega) ⟨hD2, hD3, fun v1 hv1 => ⟨by show upd (D 1) v _ v1 = _; rw [upd_o (by omega)]; exact (hall.2.2 v1 hv1).1, (hall.2.2 v1 hv1).2⟩, upd_e, fun g1 h => absurd h (by omega)⟩
      exact z2
theorem D113 {d : Nat} {m : Mm} {Q : Option Value → Mm → Prop} {a b n nt nvl : Nat} (hd : 2 ≤ d) (hW : Wd m.2.2) (hL : LW m.2.2 a) (hB : SW m.2.2 b) (ha : a + 19 ≤ 136) (hb : b + 4 ≤ 136) (hnt : mI m (a + 1) 2 = nI nt) (hnt6 : nt ≤ 6) (hn : mI m (a + 1) 4 = nI n) (hn6 : n ≤ 6) (hv : mI m (a + 1) 10 = nI nvl) (hv4 : nvl ≤ 4) (hho : ∀ v, v < nvl → iR (mI m (a + 11) v) 24) (hce : ∀ c, c < 24 → iR (mI m (a + 2) c) 5) {D : Nat → Nat → Int32} (hQ : ∀ D, D 0 2 = nI nvl → D 0 3 = nI n → lkP (lam m a) (lam m b) nt n nvl D → Q none (bput m 136 3 D)) : Cc d 0 0 113 [.ref 136, .ref a, .ref b] (bput m 136 3 D) Q := by
  refine ent (n := 170) z113 (by decide) rfl (by decide) (Nat.le_of_ble_eq_true rfl) (fun sc => ?_)
  refine And.intro ⟨by omega, Nat.le_of_ble_eq_true rfl, Nat.le_refl _, Nat.le_refl _⟩ (And.intro (LWo_0 hL) ?_)
  refine C25 (m := (bput m 136 3 D)) hL ?_
  rw [bput_lo (m := m) (x := 136) (n := 3) (D := D) (b := (a + 1)) (by omega)]
  rw [hv]
  refine And.intro (Wdo_136 hW) ?_
  rw [bput_u0 (x := 136) (by decide)]
  refine And.intro ⟨by omega, Nat.le_of_ble_eq_true rfl, Nat.le_refl _, Nat.le_refl _⟩ (And.intro (LWo_0 hL) ?_)
  refine C23 (m := (bput m 136 3 (ud D 0 2 (nI nvl)))) hL ?_
  rw [bput_lo (m := m) (x := 136) (n := 3) (D := (ud D 0 2 (nI nvl))) (b := (a + 1)) (by omega)]
  rw [hn]
  refine And.intro (Wdo_136 hW) ?_
  rw [bput_u0 (x := 136) (by decide)]
  show Jj sc d 0 0 (mth 113) (pg P113 10).1 [some (.ref 136), some (.ref a), some (.ref b), some (.int (nI 0)), none, none, none, none] [] (bput m 136 3 (ud (ud D 0 2 (nI nvl)) 0 3 (nI n))) 0 0 Q
  exact lq113c hd hW hL hB ha hb hnt hnt6 hn hn6 hv hv4 hho hce hQ (nvl + 1) 0 _ (Nat.zero_le _) (by omega) ⟨rfl, rfl, fun _ h => absurd h (by omega)⟩
