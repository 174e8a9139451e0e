def lnPt (B : Nat → Int32) (n s : Nat) (Y : Rs LSt) (D : Nat → Nat → Int32) (K : Nat → Nat → Int64) (E : Nat → Nat → Int32) (L : Nat → Nat → Int64) : Prop := match Y with
  | .inl e => RX B n (.inl e) D K
  | .inr a => RX B n (.inr a.2.2) D K ∧ NR a.1 E L ∧ LQ (bump a.2.1 s) E
theorem lnPt_l {B : Nat → Int32} {n s : Nat} {Y : Rs LSt} {D : Nat → Nat → Int32} {K : Nat → Nat → Int64} {E : Nat → Nat → Int32} {L : Nat → Nat → Int64} {e : Nat × Nat} (h : rb Y (fun a => (.inr a.2.2 : Rs Nat)) = .inl e) (hX : RX B n (.inl e) D K) : lnPt B n s Y D K E L := by
  cases Y with
  | inl f => exact (Sum.inl.inj h) ▸ hX
  | inr a => cases h
theorem rb_i {α β : Type} {a : α} {f : α → Rs β} : rb (.inr a) f = f a := rfl
theorem rb_o {α β : Type} {a : Nat × Nat} {f : α → Rs β} : rb (.inl a) f = .inl a := rfl
theorem rb_d {α : Type} {x : Rs α} : rb x (fun a => .inr a) = x := by cases x <;> rfl
theorem upd_q {E Λ : Nat → Int32} {k v : Nat} {x : Int32} (h : v ≠ k → E v = Λ v) : upd E k x v = upd Λ k x v := by
  by_cases e : v = k
  · rw [e, upd_e, upd_e]
  · rw [upd_o e, upd_o e]
    exact h e
theorem nv_b1 {c : Int32} (h : c = nI (nv c)) (hk : nv c < 1000) : nv (c + nI 1) = nv c + 1 := by
  rw [h, nI_add, nv_nI (by omega), nv_nI (by omega)]
theorem bgF_r {x y w : Int32} {B : Nat → Int32} {n i j : Nat} (h : bgF x y w B n i = .inr j) : ¬ x = y ∧ ¬ w = 0 ∧ j = nxF B n i := by
  unfold bgF at h
  split at h
  · cases h
  · rename_i h1
    split at h
    · cases h
    · rename_i h2
      exact ⟨h1, h2, (Sum.inr.inj h).symm⟩
theorem pk_y {B : Nat → Int32} {n : Nat} {X : Rs Nat} {cs : List Int64} {w : Int64} {k : Int32} (hw : wqX B n X w) (hix : ixF w cs (nI 0) = k) (hk : ¬ k = -nI 1) : rb X (fun i => .inr (nxF B n i)) = rb X (fun i => rb (pPick cs B n i) fun a => .inr a.2) ∧ (∀ i9 a j, X = .inr i9 → pPick cs B n i9 = .inr (a, j) → k = a) := by
  obtain ⟨i, rfl, kz2, ew⟩ := hw
  have e : pPick cs B n i = .inr (k, nxF B n i) := by
    unfold pPick
    rw [ew, hix, if_pos ⟨kz2, hk⟩]
  refine ⟨?_, fun i9 a j ez1 ez2 => ?_⟩
  · show Sum.inr _ = rb (pPick cs B n i) _
    rw [e]
    rfl
  · rw [← Sum.inr.inj ez1, e] at ez2
    exact congrArg Prod.fst (Sum.inr.inj ez2)
theorem pk_n {B : Nat → Int32} {n : Nat} {X : Rs Nat} {cs : List Int64} (hn : ∀ i, X = .inr i → kiF B n i = 2 → ixF (coT B n i) cs (nI 0) = -nI 1) : rb (rb X (fun i => .inl (1, plF B n i))) (fun i => .inr (nxF B n i)) = rb X (fun i => rb (pPick cs B n i) fun a => .inr a.2) ∧ (∀ i9 a j, X = .inr i9 → ¬ pPick cs B n i9 = .inr (a, j)) := by
  have key : ∀ i, X = .inr i → pPick cs B n i = .inl (1, plF B n i) := fun i e => by
    unfold pPick
    exact if_neg (fun z => z.2 (hn i e z.1))
  refine ⟨?_, fun i9 a j ez1 ez2 => ?_⟩
  · cases X with
    | inl e => rfl
    | inr i =>
      show Sum.inl _ = rb (pPick cs B n i) _
      rw [key i rfl]
      rfl
  · rw [key i9 ez1] at ez2
    cases ez2
theorem pCell_9 {Λ : Nat → Nat → Int32} {k : Nat} {x : Int32} {B : Nat → Int32} {n i : Nat} : pCell (ud Λ 9 k x) B n i = pCell Λ B n i := rfl
theorem chq_0 {f : Nat → Int32} {k : Nat} {x0q x1q x2q x3q x4q x5q x6q : Int32} : (upd (upd (upd (upd (upd (upd (upd f (k * 7 + 0) x0q) (k * 7 + 1) x1q) (k * 7 + 2) x2q) (k * 7 + 3) x3q) (k * 7 + 4) x4q) (k * 7 + 5) x5q) (k * 7 + 6) x6q) (k * 7 + 0) = x0q := by rw [upd_o (by omega), upd_o (by omega), upd_o (by omega), upd_o (by omega), upd_o (by omega), upd_o (by omega), upd_e]
theorem cho_0 {f : Nat → Int32} {k v : Nat} {x0q x1q x2q x3q x4q x5q x6q : Int32} (h : v ≠ k) : (upd (upd (upd (upd (upd (upd (upd f (k * 7 + 0) x0q) (k * 7 + 1) x1q) (k * 7 + 2) x2q) (k * 7 + 3) x3q) (k * 7 + 4) x4q) (k * 7 + 5) x5q) (k * 7 + 6) x6q) (v * 7 + 0) = f (v * 7 + 0) := by rw [upd_o (by omega), upd_o (by omega), upd_o (by omega), upd_o (by omega), upd_o (by omega), upd_o (by omega), upd_o (by omega)]
theorem chq_1 {f : Nat → Int32} {k : Nat} {x0q x1q x2q x3q x4q x5q x6q : Int32} : (upd (upd (upd (upd (upd (upd (upd f (k * 7 + 0) x0q) (k * 7 + 1) x1q) (k * 7 + 2) x2q) (k * 7 + 3) x3q) (k * 7 + 4) x4q) (k * 7 + 5) x5q) (k * 7 + 6) x6q) (k * 7 + 1) = x1q := by rw [upd_o (by omega), upd_o (by omega), upd_o (by omega), upd_o (by omega), upd_o (by omega), upd_e]
theorem cho_1 {f : Nat → Int32} {k v : Nat} {x0q x1q x2q x3q x4q x5q x6q : Int32} (h : v ≠ k) : (upd (upd (upd (upd (upd (upd (upd f (k * 7 + 0) x0q) (k * 7 + 1) x1q) (k * 7 + 2) x2q) (k * 7 + 3) x3q) (k * 7 + 4) x4q) (k * 7 + 5) x5q) (k * 7 + 6) x6q) (v * 7 + 1) = f (v * 7 + 1) := by rw [upd_o (by omega), upd_o (by omega), upd_o (by omega), upd_o (by omega), upd_o (by omega), upd_o (by omega), upd_o (by omega)]
theorem chq_2 {f : Nat → Int32} {k : Nat} {x0q x1q x2q x3q x4q x5q x6q : Int32} : (upd (upd (upd (upd (upd (upd (upd f (k * 7 + 0) x0q) (k * 7 + 1) x1q) (k * 7 + 2) x2q) (k * 7 + 3) x3q) (k * 7 + 4) x4q) (k * 7 + 5) x5q) (k * 7 + 6) x6q) (k * 7 + 2) = x2q := by rw [upd_o (by omega), upd_o (by omega), upd_o (by omega), upd_o (by omega), upd_e]
theorem cho_2 {f : Nat → Int32} {k v : Nat} {x0q x1q x2q x3q x4q x5q x6q : Int32} (h : v ≠ k) : (upd (upd (upd (upd (upd (upd (upd f (k * 7 + 0) x0q) (k * 7 + 1) x1q) (k * 7 + 2) x2q) (k * 7 + 3) x3q) (k * 7 + 4) x4q) (k * 7 + 5) x5q) (k * 7 + 6) x6q) (v * 7 + 2) = f (v * 7 + 2) := by rw [upd_o (by omega), upd_o (by omega), upd_o (by omega), upd_o (by omega), upd_o (by omega), upd_o (by omega), upd_o (by omega)]
theorem chq_3 {f : Nat → Int32} {k : Nat} {x0q x1q x2q x3q x4q x5q x6q : Int32} : (upd (upd (upd (upd (upd (upd (upd f (k * 7 + 0) x0q) (k * 7 + 1) x1q) (k * 7 + 2) x2q) (k * 7 + 3) x3q) (k * 7 + 4) x4q) (k * 7 + 5) x5q) (k * 7 + 6) x6q) (k * 7 + 3) = x3q := by rw [upd_o (by omega), upd_o (by omega), upd_o (by omega), upd_e]
theorem cho_3 {f : Nat → Int32} {k v : Nat} {x0q x1q x2q x3q x4q x5q x6q : Int32} (h : v ≠ k) : (upd (upd (upd (upd (upd (upd (upd f (k * 7 + 0) x0q) (k * 7 + 1) x1q) (k * 7 + 2) x2q) (k * 7 + 3) x3q) (k * 7 + 4) x4q) (k * 7 + 5) x5q) (k * 7 + 6) x6q) (v * 7 + 3) = f (v * 7 + 3) := by rw [upd_o (by omega), upd_o (by omega), upd_o (by omega), upd_o (by omega), upd_o (by omega), upd_o (by omega), upd_o (by omega)]
theorem chq_4 {f : Nat → Int32} {k : Nat} {x0q x1q x2q x3q x4q x5q x6q : Int32} : (upd (upd (upd (upd (upd (upd (upd f (k * 7 + 0) x0q) (k * 7 + 1) x1q) (k * 7 + 2) x2q) (k * 7 + 3) x3q) (k * 7 + 4) x4q) (k * 7 + 5) x5q) (k * 7 + 6) x6q) (k * 7 + 4) = x4q := by rw [upd_o (by omega), upd_o (by omega), upd_e]
theorem cho_4 {f : Nat → Int32} {k v : Nat} {x0q x1q x2q x3q x4q x5q x6q : Int32} (h : v ≠ k) : (upd (upd (upd (upd (upd (upd (upd f (k * 7 + 0) x0q) (k * 7 + 1) x1q) (k * 7 + 2) x2q) (k * 7 + 3) x3q) (k * 7 + 4) x4q) (k * 7 + 5) x5q) (k * 7 + 6) x6q) (v * 7 + 4) = f (v * 7 + 4) := by rw [upd_o (by omega), upd_o (by omega), upd_o (by omega), upd_o (by omega), upd_o (by omega), upd_o (by omega), upd_o (by omega)]
theorem chq_5 {f : Nat → Int32} {k : Nat} {x0q x1q x2q x3q x4q x5q x6q : Int32} : (upd (upd (upd (upd (upd (upd (upd f (k * 7 + 0) x0q) (k * 7 + 1) x1q) (k * 7 + 2) x2q) (k * 7 + 3) x3q) (k * 7 + 4) x4q) (k * 7 + 5) x5q) (k * 7 + 6) x6q) (k * 7 + 5) = x5q := by rw [upd_o (by omega), upd_e]
theorem cho_5 {f : Nat → Int32} {k v : Nat} {x0q x1q x2q x3q x4q x5q x6q : Int32} (h : v ≠ k) : (upd (upd (upd (upd (upd (upd (upd f (k * 7 + 0) x0q) (k * 7 + 1) x1q) (k * 7 + 2) x2q) (k * 7 + 3) x3q) (k * 7 + 4) x4q) (k * 7 + 5) x5q) (k * 7 + 6) x6q) (v * 7 + 5) = f (v * 7 + 5) := by rw [upd_o (by omega), upd_o (by omega), upd_o (by omega), upd_o (by omega), upd_o (by omega), upd_o (by omega), upd_o (by omega)]
theorem chq_6 {f : Nat → Int32} {k : Nat} {x0q x1q x2q x3q x4q x5q x6q : Int32} : (upd (upd (upd (upd (upd (upd (upd f (k * 7 + 0) x0q) (k * 7 + 1) x1q) (k * 7 + 2) x2q) (k * 7 + 3) x3q) (k * 7 + 4) x4q) (k * 7 + 5) x5q) (k * 7 + 6) x6q) (k * 7 + 6) = x6q := by rw [upd_e]
theorem cho_6 {f : Nat → Int32} {k v : Nat} {x0q x1q x2q x3q x4q x5q x6q : Int32} (h : v ≠ k) : (upd (upd (upd (upd (upd (upd (upd f (k * 7 + 0) x0q) (k * 7 + 1) x1q) (k * 7 + 2) x2q) (k * 7 + 3) x3q) (k * 7 + 4) x4q) (k * 7 + 5) x5q) (k * 7 + 6) x6q) (v * 7 + 6) = f (v * 7 + 6) := by rw [upd_o (by omega), upd_o (by omega), upd_o (by omega), upd_o (by omega), upd_o (by omega), upd_o (by omega), upd_o (by omega)]
theorem wq_2 {B : Nat → Int32} {n i : Nat} {X : Rs Nat} {w : Int64} (h : wqX B n X w) (e : X = .inr i) : kiF B n i = 2 := by
  obtain ⟨j, ez1, h1, _⟩ := h
  rw [e] at ez1
  rw [Sum.inr.inj ez1]
  exact h1
theorem wq_n {B : Nat → Int32} {n i : Nat} {X : Rs Nat} {w : Int64} (h : ¬ wqX B n X w) (e : X = .inr i) (h2 : kiF B n i = 2) : ¬ w = coT B n i := fun z => h ⟨i, e, h2, z.symm⟩
theorem L232 {d : Nat} {m : Mm} {Q : Option Value → Mm → Prop} {q : Nat} {E : Nat → Nat → Int32} {L : Nat → Nat → Int64} (hW : Wd m.2.2) (hN : NW m.2.2 q) (hdq : q + 29 ≤ 142 ∨ 142 + 3 ≤ q) {D : Nat → Nat → Int32} {K : Nat → Nat → Int64} {Λ : Nat → Nat → Int32} {T : NT} (hq4 : va_rf (mR m 142 4) = .ref q) (hLQ : LQ Λ E) (hNR : NR T E L) (hI : LRI T Λ) {B : Nat → Int32} {n i : Nat} (hR : RBy B n D) (hT : TR B n i D K) (hi : i ≤ n) (h14 : D 0 14 = nI 0) (kk2 : kiF B n i = 2) (hd : 13 ≤ d) (hQ : ∀ D1 K1 E1 L1, FY D D1 → lnPt B n 2 (rb (bgF (nI (nv (Λ 1 2))) (nI 6) (E 0 0) B n i) (fun i => rb (tTell T 2 Λ B n i) fun t => .inr (t.1, Λ, t.2))) D1 K1 E1 L1 → Q none (pp m 142 3 D1 K1 q 29 E1 L1)) : Cc d 0 0 232 [.ref 142] (pp m 142 3 D K q 29 E L) Q := by
  obtain ⟨hL0, hL1, hL2, hL3, hL4, hL5, hL6, hL7, hL8, hL9, hL10, hL11, hL12⟩ := hLQ
  obtain ⟨hC, hWI, hNN, hVI⟩ := hI
  obtain ⟨hn0, hTS2, hTS4, hTS8⟩ := hNN
  have hc2q := hC 2 (by decide)
  have hc4q := hC 4 (by decide)
  have hc8q := hC 8 (by decide)
  have hc10q := hC 10 (by decide)
  have hc2q := hC 2 (by decide)
  refine ent (n := 78) z232 (by decide) rfl (by decide) (Nat.le_of_ble_eq_true rfl) (fun sc => ?_)
  refine And.intro (Wdo_142 hW) (Exists.intro _ (And.intro hq4 ?_))
  refine And.intro (NWo_0 hN) ?_
  rw [pp_20 (y := q) (by omega) (by decide)]
  rw [(show E 0 5 = nI (nv (Λ 1 2)) from hL0.2.2.2.2.2.1.trans hc2q.1)]
  refine And.intro ⟨by omega, Nat.le_of_ble_eq_true rfl, Nat.le_refl _, Nat.le_refl _⟩ (And.intro (Wdo_142 hW) ?_)
  refine L220 hW hN hdq hq4 hR hT hi h14 kk2 (by omega) (fun D5r K5r hX5 hy5 => ?_)
  generalize eX5 : bgF (nI ((nv (Λ 1 2)))) (nI 6) (E 0 0) B n i = X5r at hX5
  · -- a way behind the call
    refine And.intro ⟨by omega, Nat.le_of_ble_eq_true rfl, Nat.le_refl _, Nat.le_refl _⟩ (And.intro (Wdo_142 hW) ?_)
    refine X221 hW hN hdq hq4 hNR hX5 (by omega) (fun D7r K7r v7r hX7 hy7 hv7 => ?_)
    generalize eX7 : rb X5r (fun i => pTell T.2.1 T.1 B n i) = X7r at hX7
    · -- a way behind the call
      refine And.intro (Wdo_142 hW) ?_
      rw [pp_10 (x := 142) (by decide)]
      refine And.intro (fun cz12 => ?_) (fun cz12 => ?_)
      · -- 12 taken: ¬ D7r 0 9 = nI 5
        obtain ⟨jr, ej⟩ := RX_n hX7 cz12; obtain ⟨p7r, pe7, ph7⟩ := rb_r (eX7.trans ej); have vv7 := hv7 _ _ pe7 ph7; have eb := eX5.trans pe7; obtain ⟨hb1, hb2, hb3⟩ := bgF_r eb
        have hlt : nv (Λ 1 2) < 6 := by rcases Nat.lt_or_ge (nv (Λ 1 2)) 6 with z | z; exact z; exact absurd (congrArg nI (show nv (Λ 1 2) = 6 by have := hc2q.2; change _ ≤ 6 at this; omega)) hb1
        have ht24 : T.1 < 24 := by have a2 := hc2q.2; have a4 := hc4q.2; have a8 := hc8q.2; have a0 := hc10q.2; change _ ≤ 6 at a2; change _ ≤ 6 at a4; change _ ≤ 8 at a8; change _ ≤ 4 at a0; omega
        refine And.intro (Wdo_142 hW) (Exists.intro _ (And.intro hq4 ?_))
        refine And.intro (NWo_0 hN) ?_
        rw [pp_20 (y := q) (by omega) (by decide)]
        rw [(show E 0 5 = nI (nv (Λ 1 2)) from hL0.2.2.2.2.2.1.trans hc2q.1)]
        refine And.intro ⟨by omega, Nat.le_of_ble_eq_true rfl, Nat.le_refl _, Nat.le_refl _⟩ (And.intro (Wdo_142 hW) ?_)
        refine D222 (k := T.1) hW hN hdq hq4 hNR.1 (by omega) ?_
        unfold nmE
        refine And.intro (Wdo_142 hW) (Exists.intro _ (And.intro hq4 ?_))
        refine And.intro rfl ?_
        refine And.intro (NWo_0 hN) ?_
        rw [pp_20 (y := q) (by omega) (by decide)]
        refine And.intro (NWo_0 hN) ?_
        rw [pp_u20 (y := q) (by omega) (by decide)]
        refine And.intro ⟨rfl, rfl, Nat.le_refl _, Nat.le_refl _⟩ ?_
        have hS : rb (bgF (nI (nv (Λ 1 2))) (nI 6) (E 0 0) B n i) (fun i => rb (tTell T 2 Λ B n i) fun t => .inr (t.1, Λ, t.2)) = .inr (tAdd T (coT B n p7r) 2 (Λ 1 2), Λ, jr) := by
          simp only [ph7, eb, rb_a, rb_i, tTell]
        rw [ej] at hX7
        refine hQ _ _ _ _ (FY_t hy5 hy7) ?_
        rw [hS]
        rw [vv7]
        rw [← hc2q.1]
        have hb5 := nv_b1 hc2q.1 (by omega)
        refine ⟨hX7, NR_a hNR ht24 (by decide), ⟨⟨hL0.1, hL0.2.1, hL0.2.2.1, hL0.2.2.2.1, hL0.2.2.2.2.1, (by first | rfl | exact congrArg (fun z => z + nI 1) hL0.2.2.2.2.2.1), hL0.2.2.2.2.2.2.1, hL0.2.2.2.2.2.2.2.1, hL0.2.2.2.2.2.2.2.2.1, hL0.2.2.2.2.2.2.2.2.2.1, hL0.2.2.2.2.2.2.2.2.2.2.1, hL0.2.2.2.2.2.2.2.2.2.2.2.1, hL0.2.2.2.2.2.2.2.2.2.2.2.2.1, hL0.2.2.2.2.2.2.2.2.2.2.2.2.2.1, hL0.2.2.2.2.2.2.2.2.2.2.2.2.2.2⟩, hL1, hL2, hL3, hL4, hL5, hL6, hL7, hL8, hL9, hL10, hL11, hL12⟩⟩
      · -- 12 not: D7r 0 9 = nI 5
        refine And.intro ⟨rfl, rfl, Nat.le_refl _, Nat.le_refl _⟩ ?_
        obtain ⟨er, ee⟩ := RX_5 hX7 cz12
        rw [ee] at hX7
        subst eX7
        subst eX5
        refine hQ _ _ _ _ (FY_t hy5 hy7) (lnPt_l (Eq.trans ?_ ee) hX7)
        simp only [rb_a, rb_i, rb_d, tTell]
theorem L240 {d : Nat} {m : Mm} {Q : Option Value → Mm → Prop} {q : Nat} {E : Nat → Nat → Int32} {L : Nat → Nat → Int64} (hW : Wd m.2.2) (hN : NW m.2.2 q) (hdq : q + 29 ≤ 142 ∨ 142 + 3 ≤ q) {D : Nat → Nat → Int32} {K : Nat → Nat → Int64} {Λ : Nat → Nat → Int32} {T : NT} (hq4 : va_rf (mR m 142 4) = .ref q) (hLQ : LQ Λ E) (hNR : NR T E L) (hI : LRI T Λ) {B : Nat → Int32} {n i : Nat} (hR : RBy B n D) (hT : TR B n i D K) (hi : i ≤ n) (h14 : D 0 14 = nI 0) (kk2 : kiF B n i = 2) (hd : 13 ≤ d) (hQ : ∀ D1 K1 E1 L1, FY D D1 → lnPt B n 10 (rb (bgF (nI (nv (Λ 1 10))) (nI 4) (E 0 0) B n i) (fun i => villL T Λ B n i)) D1 K1 E1 L1 → Q none (pp m 142 3 D1 K1 q 29 E1 L1)) : Cc d 0 0 240 [.ref 142] (pp m 142 3 D K q 29 E L) Q := by
  obtain ⟨hL0, hL1, hL2, hL3, hL4, hL5, hL6, hL7, hL8, hL9, hL10, hL11, hL12⟩ := hLQ
  obtain ⟨hC, hWI, hNN, hVI⟩ := hI
  obtain ⟨hn0, hTS2, hTS4, hTS8⟩ := hNN
  have hc2q := hC 2 (by decide)
  have hc4q := hC 4 (by decide)
  have hc8q := hC 8 (by decide)
  have hc10q := hC 10 (by decide)
  have hc10q := hC 10 (by decide)
  refine ent (n := 130) z240 (by decide) rfl (by decide) (Nat.le_of_ble_eq_true rfl) (fun sc => ?_)
  refine And.intro (Wdo_142 hW) (Exists.intro _ (And.intro hq4 ?_))
  refine And.intro (NWo_0 hN) ?_
  rw [pp_20 (y := q) (by omega) (by decide)]
  rw [(show E 0 12 = nI (nv (Λ 1 10)) from hL0.2.2.2.2.2.2.2.2.2.2.2.2.1.trans hc10q.1)]
  refine And.intro ⟨by omega, Nat.le_of_ble_eq_true rfl, Nat.le_refl _, Nat.le_refl _⟩ (And.intro (Wdo_142 hW) ?_)
  refine L220 hW hN hdq hq4 hR hT hi h14 kk2 (by omega) (fun D5r K5r hX5 hy5 => ?_)
  generalize eX5 : bgF (nI ((nv (Λ 1 10)))) (nI 4) (E 0 0) B n i = X5r at hX5
  · -- a way behind the call
    show zw sc d 0 0 (mth 240).2.2.2.2.1 P240 (KJ sc d 0 0 (mth 240) P240 Q) Q 125 6 [some (.ref 142), none, none, none, none] [] (pp m 142 3 D5r K5r q 29 E L) 0 0
    refine And.intro ⟨by omega, Nat.le_of_ble_eq_true rfl, Nat.le_refl _, Nat.le_refl _⟩ (And.intro (Wdo_142 hW) ?_)
    refine X221 hW hN hdq hq4 hNR hX5 (by omega) (fun D7r K7r v7r hX7 hy7 hv7 => ?_)
    generalize eX7 : rb X5r (fun i => pTell T.2.1 T.1 B n i) = X7r at hX7
    · -- a way behind the call
      show zw sc d 0 0 (mth 240).2.2.2.2.1 P240 (KJ sc d 0 0 (mth 240) P240 Q) Q 123 8 [some (.ref 142), none, none, none, none] [.long v7r] (pp m 142 3 D7r K7r q 29 E L) 0 0
      refine And.intro ⟨by omega, Nat.le_of_ble_eq_true rfl, Nat.le_refl _, Nat.le_refl _⟩ (And.intro (Wdo_142 hW) ?_)
      refine X226 (Λ := Λ) hW hN hdq hL0.1 hL0.2.1 hq4 hX7 (by omega) (fun D10r K10r v10r hX10 hy10 hv10 => ?_)
      generalize eX10 : rb X7r (fun i => rb (pCell Λ B n i) fun a => .inr a.2) = X10r at hX10
      · -- a way behind the call
        show zw sc d 0 0 (mth 240).2.2.2.2.1 P240 (KJ sc d 0 0 (mth 240) P240 Q) Q 120 11 [some (.ref 142), some (.long v7r), none, none, none] [.int v10r] (pp m 142 3 D10r K10r q 29 E L) 0 0
        refine And.intro ⟨by omega, Nat.le_of_ble_eq_true rfl, Nat.le_refl _, Nat.le_refl _⟩ (And.intro (Wdo_142 hW) ?_)
        refine X215 (s0 := 52) hW hN hdq (by decide) (by decide) wo_52 hX10 (by omega) (fun D14r K14r hX14 hy14 => ?_)
        generalize eX14 : rb X10r (fun i => pWord (lN 19965396) B n i) = X14r at hX14
        · -- a way behind the call
          show zw sc d 0 0 (mth 240).2.2.2.2.1 P240 (KJ sc d 0 0 (mth 240) P240 Q) Q 116 15 [some (.ref 142), some (.long v7r), none, some (.int v10r), none] [] (pp m 142 3 D14r K14r q 29 E L) 0 0
          refine And.intro ⟨by omega, Nat.le_of_ble_eq_true rfl, Nat.le_refl _, Nat.le_refl _⟩ (And.intro (Wdo_142 hW) ?_)
          refine X224 (so := 4) hW hN hdq (by decide) hq4 hNR hX14 (by omega) (fun D17r K17r v17r hX17 hy17 hv17 => ?_)
          generalize eX17 : rb X14r (fun i => rb (tUse T 4 B n i) fun a => .inr a.2) = X17r at hX17
          · -- a way behind the call
            show zw sc d 0 0 (mth 240).2.2.2.2.1 P240 (KJ sc d 0 0 (mth 240) P240 Q) Q 113 18 [some (.ref 142), some (.long v7r), none, some (.int v10r), none] [.int v17r] (pp m 142 3 D17r K17r q 29 E L) 0 0
            refine And.intro (Wdo_142 hW) ?_
            rw [pp_10 (x := 142) (by decide)]
            refine And.intro (fun cz22 => ?_) (fun cz22 => ?_)
            · -- 22 taken: ¬ D17r 0 9 = nI 5
              obtain ⟨jr, ej⟩ := RX_n hX17 cz22; obtain ⟨p17r, pe17, ph17⟩ := rb_r (eX17.trans ej); obtain ⟨⟨a17r, q17r⟩, pf17, pg17⟩ := rb_r ph17; have vv17 := hv17 _ _ _ pe17 pf17; have pg17x : q17r = _ := Sum.inr.inj pg17; obtain ⟨p14r, pe14, ph14⟩ := rb_r (eX14.trans pe17); obtain ⟨p10r, pe10, ph10⟩ := rb_r (eX10.trans pe14); obtain ⟨⟨a10r, q10r⟩, pf10, pg10⟩ := rb_r ph10; have vv10 := hv10 _ _ _ pe10 pf10; have pg10x : q10r = _ := Sum.inr.inj pg10; obtain ⟨p7r, pe7, ph7⟩ := rb_r (eX7.trans pe10); have vv7 := hv7 _ _ pe7 ph7; have eb := eX5.trans pe7; obtain ⟨hb1, hb2, hb3⟩ := bgF_r eb
              have hlt : nv (Λ 1 10) < 4 := by rcases Nat.lt_or_ge (nv (Λ 1 10)) 4 with z | z; exact z; exact absurd (congrArg nI (show nv (Λ 1 10) = 4 by have := hc10q.2; change _ ≤ 4 at this; omega)) hb1
              have ht24 : T.1 < 24 := by have a2 := hc2q.2; have a4 := hc4q.2; have a8 := hc8q.2; have a0 := hc10q.2; change _ ≤ 6 at a2; change _ ≤ 6 at a4; change _ ≤ 8 at a8; change _ ≤ 4 at a0; omega
              refine And.intro (Wdo_142 hW) (Exists.intro _ (And.intro hq4 ?_))
              refine And.intro (NWo_0 hN) ?_
              rw [pp_20 (y := q) (by omega) (by decide)]
              rw [(show E 0 12 = nI (nv (Λ 1 10)) from hL0.2.2.2.2.2.2.2.2.2.2.2.2.1.trans hc10q.1)]
              refine And.intro ⟨by omega, Nat.le_of_ble_eq_true rfl, Nat.le_refl _, Nat.le_refl _⟩ (And.intro (Wdo_142 hW) ?_)
              refine D222 (k := T.1) hW hN hdq hq4 hNR.1 (by omega) ?_
              unfold nmE
              refine And.intro (Wdo_142 hW) (Exists.intro _ (And.intro hq4 ?_))
              refine And.intro (NWo_0 hN) (Exists.intro _ (And.intro (NWr_0_34 hN) ?_))
              refine And.intro (Wdo_142 hW) (Exists.intro _ (And.intro hq4 ?_))
              refine And.intro (NWo_0 hN) ?_
              rw [pp_20 (y := q) (by omega) (by decide)]
              refine And.intro (NWi_18 hN (vi (show (ud (ud (ud E 27 T.1 (nI 3)) 28 T.1 (nI ((nv (Λ 1 10))))) 0 15 (nI T.1 + nI 1)) 0 12 = nI (nv (Λ 1 10)) from hL0.2.2.2.2.2.2.2.2.2.2.2.2.1.trans hc10q.1) (by omega))) ?_
              rw [vc (show (ud (ud (ud E 27 T.1 (nI 3)) 28 T.1 (nI ((nv (Λ 1 10))))) 0 15 (nI T.1 + nI 1)) 0 12 = nI (nv (Λ 1 10)) from hL0.2.2.2.2.2.2.2.2.2.2.2.2.1.trans hc10q.1) (by omega)]
              rw [pp_u2 (y := q) (f := 18) (by omega) (by decide)]
              refine And.intro (Wdo_142 hW) (Exists.intro _ (And.intro hq4 ?_))
              refine And.intro (NWo_0 hN) (Exists.intro _ (And.intro (NWr_0_35 hN) ?_))
              refine And.intro (Wdo_142 hW) (Exists.intro _ (And.intro hq4 ?_))
              refine And.intro (NWo_0 hN) ?_
              rw [pp_20 (y := q) (by omega) (by decide)]
              rw [ud_ne (D := (ud (ud (ud E 27 T.1 (nI 3)) 28 T.1 (nI ((nv (Λ 1 10))))) 0 15 (nI T.1 + nI 1))) (f := 18) (g := 0) (by decide)]
              refine And.intro (NWi_19 hN (vi (show (ud (ud (ud E 27 T.1 (nI 3)) 28 T.1 (nI ((nv (Λ 1 10))))) 0 15 (nI T.1 + nI 1)) 0 12 = nI (nv (Λ 1 10)) from hL0.2.2.2.2.2.2.2.2.2.2.2.2.1.trans hc10q.1) (by omega))) ?_
              rw [vc (show (ud (ud (ud E 27 T.1 (nI 3)) 28 T.1 (nI ((nv (Λ 1 10))))) 0 15 (nI T.1 + nI 1)) 0 12 = nI (nv (Λ 1 10)) from hL0.2.2.2.2.2.2.2.2.2.2.2.2.1.trans hc10q.1) (by omega)]
              rw [pp_u2 (y := q) (f := 19) (by omega) (by decide)]
              refine And.intro (Wdo_142 hW) (Exists.intro _ (And.intro hq4 ?_))
              refine And.intro rfl ?_
              refine And.intro (NWo_0 hN) ?_
              rw [pp_20 (y := q) (by omega) (by decide)]
              rw [ud_ne (D := (ud (ud (ud (ud E 27 T.1 (nI 3)) 28 T.1 (nI ((nv (Λ 1 10))))) 0 15 (nI T.1 + nI 1)) 18 ((nv (Λ 1 10))) v10r)) (f := 19) (g := 0) (by decide)]
              rw [ud_ne (D := (ud (ud (ud E 27 T.1 (nI 3)) 28 T.1 (nI ((nv (Λ 1 10))))) 0 15 (nI T.1 + nI 1))) (f := 18) (g := 0) (by decide)]
              refine And.intro (NWo_0 hN) ?_
              rw [pp_u20 (y := q) (by omega) (by decide)]
              refine And.intro ⟨rfl, rfl, Nat.le_refl _, Nat.le_refl _⟩ ?_
              have hS : rb (bgF (nI (nv (Λ 1 10))) (nI 4) (E 0 0) B n i) (fun i => villL T Λ B n i) = .inr (tAdd T (coT B n p7r) 10 (Λ 1 10), ud (ud Λ 11 (nv (Λ 1 10)) a10r) 18 (nv (Λ 1 10)) a17r, jr) := by
                simp only [pf17, pg17x, ph14, pf10, pg10x, ph7, eb, rb_a, rb_i, villL, tTell, tU_04]
              rw [ej] at hX17
              refine hQ _ _ _ _ (FY_t (FY_t (FY_t (FY_t hy5 hy7) hy10) hy14) hy17) ?_
              rw [hS]
              rw [vv17]
              rw [vv10]
              rw [vv7]
              rw [← hc10q.1]
              have hb5 := nv_b1 hc10q.1 (by omega)
              refine ⟨hX17, NR_a hNR ht24 (by decide), ⟨⟨hL0.1, hL0.2.1, hL0.2.2.1, hL0.2.2.2.1, hL0.2.2.2.2.1, hL0.2.2.2.2.2.1, hL0.2.2.2.2.2.2.1, hL0.2.2.2.2.2.2.2.1, hL0.2.2.2.2.2.2.2.2.1, hL0.2.2.2.2.2.2.2.2.2.1, hL0.2.2.2.2.2.2.2.2.2.2.1, hL0.2.2.2.2.2.2.2.2.2.2.2.1, (by first | rfl | exact congrArg (fun z => z + nI 1) hL0.2.2.2.2.2.2.2.2.2.2.2.2.1), hL0.2.2.2.2.2.2.2.2.2.2.2.2.2.1, hL0.2.2.2.2.2.2.2.2.2.2.2.2.2.2⟩, hL1, hL2, hL3, hL4, hL5, hL6, hL7, hL8, hL9, ⟨fun v hv => upd_q (fun z => hL10.1 v (by change v < nv (Λ 1 10 + nI 1) at hv; omega)), fun v hv => upd_q (fun z => hL10.2 v hv)⟩, hL11, hL12⟩⟩
            · -- 22 not: D17r 0 9 = nI 5
              refine And.intro ⟨rfl, rfl, Nat.le_refl _, Nat.le_refl _⟩ ?_
              obtain ⟨er, ee⟩ := RX_5 hX17 cz22
              rw [ee] at hX17
              subst eX17
              subst eX14
              subst eX10
              subst eX7
              subst eX5
              refine hQ _ _ _ _ (FY_t (FY_t (FY_t (FY_t hy5 hy7) hy10) hy14) hy17) (lnPt_l (Eq.trans ?_ ee) hX17)
              simp only [rb_a, rb_i, rb_d, villL, tTell, tU_04]
theorem L238 {d : Nat} {m : Mm} {Q : Option Value → Mm → Prop} {q : Nat} {E : Nat → Nat → Int32} {L : Nat → Nat → Int64} (hW : Wd m.2.2) (hN : NW m.2.2 q) (hdq : q + 29 ≤ 142 ∨ 142 + 3 ≤ q) {D : Nat → Nat → Int32} {K : Nat → Nat → Int64} {Λ : Nat → Nat → Int32} {T : NT} (hq4 : va_rf (mR m 142 4) = .ref q) (hLQ : LQ Λ E) (hNR : NR T E L) (hI : LRI T Λ) {B : Nat → Int32} {n i : Nat} (hR : RBy B n D) (hT : TR B n i D K) (hi : i ≤ n) (h14 : D 0 14 = nI 0) (kk2 : kiF B n i = 2) (hd : 13 ≤ d) (hQ : ∀ D1 K1 E1 L1, FY D D1 → lnPt B n 8 (rb (bgF (nI (nv (Λ 1 8))) (nI 8) (E 0 0) B n i) (fun i => prayerL T Λ B n i)) D1 K1 E1 L1 → Q none (pp m 142 3 D1 K1 q 29 E1 L1)) : Cc d 0 0 238 [.ref 142] (pp m 142 3 D K q 29 E L) Q := by
  obtain ⟨hL0, hL1, hL2, hL3, hL4, hL5, hL6, hL7, hL8, hL9, hL10, hL11, hL12⟩ := hLQ
  obtain ⟨hC, hWI, hNN, hVI⟩ := hI
  obtain ⟨hn0, hTS2, hTS4, hTS8⟩ := hNN
  have hc2q := hC 2 (by decide)
  have hc4q := hC 4 (by decide)
  have hc8q := hC 8 (by decide)
  have hc10q := hC 10 (by decide)
  have hc8q := hC 8 (by decide)
  refine ent (n := 240) z238 (by decide) rfl (by decide) (Nat.le_of_ble_eq_true rfl) (fun sc => ?_)
  refine And.intro (Wdo_142 hW) (Exists.intro _ (And.intro hq4 ?_))
  refine And.intro (NWo_0 hN) ?_
  rw [pp_20 (y := q) (by omega) (by decide)]
  rw [(show E 0 10 = nI (nv (Λ 1 8)) from hL0.2.2.2.2.2.2.2.2.2.2.1.trans hc8q.1)]
  refine And.intro ⟨by omega, Nat.le_of_ble_eq_true rfl, Nat.le_refl _, Nat.le_refl _⟩ (And.intro (Wdo_142 hW) ?_)
  refine L220 hW hN hdq hq4 hR hT hi h14 kk2 (by omega) (fun D5r K5r hX5 hy5 => ?_)
  generalize eX5 : bgF (nI ((nv (Λ 1 8)))) (nI 8) (E 0 0) B n i = X5r at hX5
  · -- a way behind the call
    show zw sc d 0 0 (mth 238).2.2.2.2.1 P238 (KJ sc d 0 0 (mth 238) P238 Q) Q 235 6 [some (.ref 142), none, none, none, none, none, none, none, none, none, none] [] (pp m 142 3 D5r K5r q 29 E L) 0 0
    refine And.intro ⟨by omega, Nat.le_of_ble_eq_true rfl, Nat.le_refl _, Nat.le_refl _⟩ (And.intro (Wdo_142 hW) ?_)
    refine X221 hW hN hdq hq4 hNR hX5 (by omega) (fun D7r K7r v7r hX7 hy7 hv7 => ?_)
    generalize eX7 : rb X5r (fun i => pTell T.2.1 T.1 B n i) = X7r at hX7
    · -- a way behind the call
      show zw sc d 0 0 (mth 238).2.2.2.2.1 P238 (KJ sc d 0 0 (mth 238) P238 Q) Q 233 8 [some (.ref 142), none, none, none, none, none, none, none, none, none, none] [.long v7r] (pp m 142 3 D7r K7r q 29 E L) 0 0
      refine And.intro ⟨by omega, Nat.le_of_ble_eq_true rfl, Nat.le_refl _, Nat.le_refl _⟩ (And.intro (Wdo_142 hW) ?_)
      refine X224 (so := 2) hW hN hdq (by decide) hq4 hNR hX7 (by omega) (fun D11r K11r v11r hX11 hy11 hv11 => ?_)
      generalize eX11 : rb X7r (fun i => rb (tUse T 2 B n i) fun a => .inr a.2) = X11r at hX11
      · -- a way behind the call
        show zw sc d 0 0 (mth 238).2.2.2.2.1 P238 (KJ sc d 0 0 (mth 238) P238 Q) Q 229 12 [some (.ref 142), some (.long v7r), none, none, none, none, none, none, none, none, none] [.int v11r] (pp m 142 3 D11r K11r q 29 E L) 0 0
        refine And.intro ⟨by omega, Nat.le_of_ble_eq_true rfl, Nat.le_refl _, Nat.le_refl _⟩ (And.intro (Wdo_142 hW) ?_)
        refine X226 (Λ := Λ) hW hN hdq hL0.1 hL0.2.1 hq4 hX11 (by omega) (fun D14r K14r v14r hX14 hy14 hv14 => ?_)
        generalize eX14 : rb X11r (fun i => rb (pCell Λ B n i) fun a => .inr a.2) = X14r at hX14
        · -- a way behind the call
          show zw sc d 0 0 (mth 238).2.2.2.2.1 P238 (KJ sc d 0 0 (mth 238) P238 Q) Q 226 15 [some (.ref 142), some (.long v7r), none, some (.int v11r), none, none, none, none, none, none, none] [.int v14r] (pp m 142 3 D14r K14r q 29 E L) 0 0
          refine And.intro ⟨by omega, Nat.le_of_ble_eq_true rfl, Nat.le_refl _, Nat.le_refl _⟩ (And.intro (Wdo_142 hW) ?_)
          refine X218 (s0 := 50) (w := lN 278194) hW hN hdq (by decide) (by decide) wo_50 hX14 (by omega) (fun D20r K20r v20r hX20 hy20 hv20 => ?_)
          generalize eX20a : rb X14r (fun i => pWord (lN 278194) B n i) = X20ar at hX20 hv20
          generalize eX20 : rb X20ar (fun i => rb (pWhole (nI 0) (nI 23) B n i) fun a => .inr a.2) = X20r at hX20
          · -- a way behind the call
            show zw sc d 0 0 (mth 238).2.2.2.2.1 P238 (KJ sc d 0 0 (mth 238) P238 Q) Q 220 21 [some (.ref 142), some (.long v7r), none, some (.int v11r), some (.int v14r), none, none, none, none, none, none] [.int v20r] (pp m 142 3 D20r K20r q 29 E L) 0 0
            refine And.intro ⟨by omega, Nat.le_of_ble_eq_true rfl, Nat.le_refl _, Nat.le_refl _⟩ (And.intro (Wdo_142 hW) ?_)
            refine X215 (s0 := 51) hW hN hdq (by decide) (by decide) wo_51 hX20 (by omega) (fun D24r K24r hX24 hy24 => ?_)
            generalize eX24 : rb X20r (fun i => pWord (lN 658557587) B n i) = X24r at hX24
            · -- a way behind the call
              show zw sc d 0 0 (mth 238).2.2.2.2.1 P238 (KJ sc d 0 0 (mth 238) P238 Q) Q 216 25 [some (.ref 142), some (.long v7r), none, some (.int v11r), some (.int v14r), some (.int v20r), none, none, none, none, none] [] (pp m 142 3 D24r K24r q 29 E L) 0 0
              refine And.intro ⟨by omega, Nat.le_of_ble_eq_true rfl, Nat.le_refl _, Nat.le_refl _⟩ (And.intro (Wdo_142 hW) ?_)
              refine X224 (so := 4) hW hN hdq (by decide) hq4 hNR hX24 (by omega) (fun D27r K27r v27r hX27 hy27 hv27 => ?_)
              generalize eX27 : rb X24r (fun i => rb (tUse T 4 B n i) fun a => .inr a.2) = X27r at hX27
              · -- a way behind the call
                show zw sc d 0 0 (mth 238).2.2.2.2.1 P238 (KJ sc d 0 0 (mth 238) P238 Q) Q 213 28 [some (.ref 142), some (.long v7r), none, some (.int v11r), some (.int v14r), some (.int v20r), none, none, none, none, none] [.int v27r] (pp m 142 3 D27r K27r q 29 E L) 0 0
                refine And.intro ⟨by omega, Nat.le_of_ble_eq_true rfl, Nat.le_refl _, Nat.le_refl _⟩ (And.intro (Wdo_142 hW) ?_)
                refine X217 hW hN hdq hX27 (by omega) (fun D32r K32r v32r hX32 hy32 hv32 => ?_)
                generalize eX32 : rb X27r (fun i => rb (pWhole (nI 0) (nI 23) B n i) fun a => .inr a.2) = X32r at hX32
                · -- a way behind the call
                  show zw sc d 0 0 (mth 238).2.2.2.2.1 P238 (KJ sc d 0 0 (mth 238) P238 Q) Q 208 33 [some (.ref 142), some (.long v7r), none, some (.int v11r), some (.int v14r), some (.int v20r), some (.int v27r), none, none, none, none] [.int v32r] (pp m 142 3 D32r K32r q 29 E L) 0 0
                  refine And.intro ⟨by omega, Nat.le_of_ble_eq_true rfl, Nat.le_refl _, Nat.le_refl _⟩ (And.intro (Wdo_142 hW) ?_)
                  refine X218 (s0 := 26) (w := lN 238804) hW hN hdq (by decide) (by decide) wo_26 hX32 (by omega) (fun D38r K38r v38r hX38 hy38 hv38 => ?_)
                  generalize eX38a : rb X32r (fun i => pWord (lN 238804) B n i) = X38ar at hX38 hv38
                  generalize eX38 : rb X38ar (fun i => rb (pWhole (nI 0) (nI 99) B n i) fun a => .inr a.2) = X38r at hX38
                  · -- a way behind the call
                    show zw sc d 0 0 (mth 238).2.2.2.2.1 P238 (KJ sc d 0 0 (mth 238) P238 Q) Q 202 39 [some (.ref 142), some (.long v7r), none, some (.int v11r), some (.int v14r), some (.int v20r), some (.int v27r), some (.int v32r), none, none, none] [.int v38r] (pp m 142 3 D38r K38r q 29 E L) 0 0
                    refine And.intro ⟨by omega, Nat.le_of_ble_eq_true rfl, Nat.le_refl _, Nat.le_refl _⟩ (And.intro (Wdo_142 hW) ?_)
                    refine X218 (s0 := 27) (w := lN 464036) hW hN hdq (by decide) (by decide) wo_27 hX38 (by omega) (fun D44r K44r v44r hX44 hy44 hv44 => ?_)
                    generalize eX44a : rb X38r (fun i => pWord (lN 464036) B n i) = X44ar at hX44 hv44
                    generalize eX44 : rb X44ar (fun i => rb (pWhole (nI 0) (nI 99) B n i) fun a => .inr a.2) = X44r at hX44
                    · -- a way behind the call
                      show zw sc d 0 0 (mth 238).2.2.2.2.1 P238 (KJ sc d 0 0 (mth 238) P238 Q) Q 196 45 [some (.ref 142), some (.long v7r), none, some (.int v11r), some (.int v14r), some (.int v20r), some (.int v27r), some (.int v32r), some (.int v38r), none, none] [.int v44r] (pp m 142 3 D44r K44r q 29 E L) 0 0
                      refine And.intro (Wdo_142 hW) ?_
                      rw [pp_10 (x := 142) (by decide)]
                      refine And.intro (fun cz49 => ?_) (fun cz49 => ?_)
                      · -- 49 taken: ¬ D44r 0 9 = nI 5
                        obtain ⟨jr, ej⟩ := RX_n hX44 cz49; obtain ⟨p44r, pe44, ph44⟩ := rb_r (eX44.trans ej); obtain ⟨⟨a44r, q44r⟩, pf44, pg44⟩ := rb_r ph44; have vv44 := hv44 _ _ _ pe44 pf44; have pg44x : q44r = _ := Sum.inr.inj pg44; obtain ⟨p44ar, pe44a, ph44a⟩ := rb_r (eX44a.trans pe44); obtain ⟨p38r, pe38, ph38⟩ := rb_r (eX38.trans pe44a); obtain ⟨⟨a38r, q38r⟩, pf38, pg38⟩ := rb_r ph38; have vv38 := hv38 _ _ _ pe38 pf38; have pg38x : q38r = _ := Sum.inr.inj pg38; obtain ⟨p38ar, pe38a, ph38a⟩ := rb_r (eX38a.trans pe38); obtain ⟨p32r, pe32, ph32⟩ := rb_r (eX32.trans pe38a); obtain ⟨⟨a32r, q32r⟩, pf32, pg32⟩ := rb_r ph32; have vv32 := hv32 _ _ _ pe32 pf32; have pg32x : q32r = _ := Sum.inr.inj pg32; obtain ⟨p27r, pe27, ph27⟩ := rb_r (eX27.trans pe32); obtain ⟨⟨a27r, q27r⟩, pf27, pg27⟩ := rb_r ph27; have vv27 := hv27 _ _ _ pe27 pf27; have pg27x : q27r = _ := Sum.inr.inj pg27; obtain ⟨p24r, pe24, ph24⟩ := rb_r (eX24.trans pe27); obtain ⟨p20r, pe20, ph20⟩ := rb_r (eX20.trans pe24); obtain ⟨⟨a20r, q20r⟩, pf20, pg20⟩ := rb_r ph20; have vv20 := hv20 _ _ _ pe20 pf20; have pg20x : q20r = _ := Sum.inr.inj pg20; obtain ⟨p20ar, pe20a, ph20a⟩ := rb_r (eX20a.trans pe20); obtain ⟨p14r, pe14, ph14⟩ := rb_r (eX14.trans pe20a); obtain ⟨⟨a14r, q14r⟩, pf14, pg14⟩ := rb_r ph14; have vv14 := hv14 _ _ _ pe14 pf14; have pg14x : q14r = _ := Sum.inr.inj pg14; obtain ⟨p11r, pe11, ph11⟩ := rb_r (eX11.trans pe14); obtain ⟨⟨a11r, q11r⟩, pf11, pg11⟩ := rb_r ph11; have vv11 := hv11 _ _ _ pe11 pf11; have pg11x : q11r = _ := Sum.inr.inj pg11; obtain ⟨p7r, pe7, ph7⟩ := rb_r (eX7.trans pe11); have vv7 := hv7 _ _ pe7 ph7; have eb := eX5.trans pe7; obtain ⟨hb1, hb2, hb3⟩ := bgF_r eb
                        have hlt : nv (Λ 1 8) < 8 := by rcases Nat.lt_or_ge (nv (Λ 1 8)) 8 with z | z; exact z; exact absurd (congrArg nI (show nv (Λ 1 8) = 8 by have := hc8q.2; change _ ≤ 8 at this; omega)) hb1
                        have ht24 : T.1 < 24 := by have a2 := hc2q.2; have a4 := hc4q.2; have a8 := hc8q.2; have a0 := hc10q.2; change _ ≤ 6 at a2; change _ ≤ 6 at a4; change _ ≤ 8 at a8; change _ ≤ 4 at a0; omega
                        refine And.intro (Wdo_142 hW) (Exists.intro _ (And.intro hq4 ?_))
                        refine And.intro (NWo_0 hN) ?_
                        rw [pp_20 (y := q) (by omega) (by decide)]
                        rw [(show E 0 10 = nI (nv (Λ 1 8)) from hL0.2.2.2.2.2.2.2.2.2.2.1.trans hc8q.1)]
                        refine And.intro ⟨by omega, Nat.le_of_ble_eq_true rfl, Nat.le_refl _, Nat.le_refl _⟩ (And.intro (Wdo_142 hW) ?_)
                        refine D222 (k := T.1) hW hN hdq hq4 hNR.1 (by omega) ?_
                        unfold nmE
                        refine And.intro (Wdo_142 hW) (Exists.intro _ (And.intro hq4 ?_))
                        refine And.intro (NWo_0 hN) (Exists.intro _ (And.intro (NWr_0_26 hN) ?_))
                        refine And.intro (NWi_10 hN (vi rfl (by omega))) ?_
                        rw [nI_clamp (show (nv (Λ 1 8)) < 2 ^ 31 by omega)]
                        rw [pp_u2 (y := q) (f := 10) (by omega) (by decide)]
                        refine And.intro (Wdo_142 hW) (Exists.intro _ (And.intro hq4 ?_))
                        refine And.intro (NWo_0 hN) (Exists.intro _ (And.intro (NWr_0_27 hN) ?_))
                        refine And.intro (NWi_11 hN (vi rfl (by omega))) ?_
                        rw [nI_clamp (show (nv (Λ 1 8)) < 2 ^ 31 by omega)]
                        rw [pp_u2 (y := q) (f := 11) (by omega) (by decide)]
                        refine And.intro (Wdo_142 hW) (Exists.intro _ (And.intro hq4 ?_))
                        refine And.intro (NWo_0 hN) (Exists.intro _ (And.intro (NWr_0_28 hN) ?_))
                        refine And.intro (NWi_12 hN (vi rfl (by omega))) ?_
                        rw [nI_clamp (show (nv (Λ 1 8)) < 2 ^ 31 by omega)]
                        rw [pp_u2 (y := q) (f := 12) (by omega) (by decide)]
                        refine And.intro (Wdo_142 hW) (Exists.intro _ (And.intro hq4 ?_))
                        refine And.intro (NWo_0 hN) (Exists.intro _ (And.intro (NWr_0_29 hN) ?_))
                        refine And.intro (NWi_13 hN (vi rfl (by omega))) ?_
                        rw [nI_clamp (show (nv (Λ 1 8)) < 2 ^ 31 by omega)]
                        rw [pp_u2 (y := q) (f := 13) (by omega) (by decide)]
                        refine And.intro (Wdo_142 hW) (Exists.intro _ (And.intro hq4 ?_))
                        refine And.intro (NWo_0 hN) (Exists.intro _ (And.intro (NWr_0_30 hN) ?_))
                        refine And.intro (NWi_14 hN (vi rfl (by omega))) ?_
                        rw [nI_clamp (show (nv (Λ 1 8)) < 2 ^ 31 by omega)]
                        rw [pp_u2 (y := q) (f := 14) (by omega) (by decide)]
                        refine And.intro (Wdo_142 hW) (Exists.intro _ (And.intro hq4 ?_))
                        refine And.intro (NWo_0 hN) (Exists.intro _ (And.intro (NWr_0_31 hN) ?_))
                        refine And.intro (NWi_15 hN (vi rfl (by omega))) ?_
                        rw [nI_clamp (show (nv (Λ 1 8)) < 2 ^ 31 by omega)]
                        rw [pp_u2 (y := q) (f := 15) (by omega) (by decide)]
                        refine And.intro (Wdo_142 hW) (Exists.intro _ (And.intro hq4 ?_))
                        refine And.intro (NWo_0 hN) (Exists.intro _ (And.intro (NWr_0_32 hN) ?_))
                        refine And.intro (NWi_16 hN (vi rfl (by omega))) ?_
                        rw [nI_clamp (show (nv (Λ 1 8)) < 2 ^ 31 by omega)]
                        rw [pp_u2 (y := q) (f := 16) (by omega) (by decide)]
                        refine And.intro (Wdo_142 hW) (Exists.intro _ (And.intro hq4 ?_))
                        refine And.intro rfl ?_
                        refine And.intro (NWo_0 hN) ?_
                        rw [pp_20 (y := q) (by omega) (by decide)]
                        rw [ud_ne (D := (ud (ud (ud (ud (ud (ud (ud (ud (ud E 27 T.1 (nI 2)) 28 T.1 (nI ((nv (Λ 1 8))))) 0 15 (nI T.1 + nI 1)) 10 ((nv (Λ 1 8))) v11r) 11 ((nv (Λ 1 8))) v14r) 12 ((nv (Λ 1 8))) v20r) 13 ((nv (Λ 1 8))) v27r) 14 ((nv (Λ 1 8))) v32r) 15 ((nv (Λ 1 8))) v38r)) (f := 16) (g := 0) (by decide)]
                        rw [ud_ne (D := (ud (ud (ud (ud (ud (ud (ud (ud E 27 T.1 (nI 2)) 28 T.1 (nI ((nv (Λ 1 8))))) 0 15 (nI T.1 + nI 1)) 10 ((nv (Λ 1 8))) v11r) 11 ((nv (Λ 1 8))) v14r) 12 ((nv (Λ 1 8))) v20r) 13 ((nv (Λ 1 8))) v27r) 14 ((nv (Λ 1 8))) v32r)) (f := 15) (g := 0) (by decide)]
                        rw [ud_ne (D := (ud (ud (ud (ud (ud (ud (ud E 27 T.1 (nI 2)) 28 T.1 (nI ((nv (Λ 1 8))))) 0 15 (nI T.1 + nI 1)) 10 ((nv (Λ 1 8))) v11r) 11 ((nv (Λ 1 8))) v14r) 12 ((nv (Λ 1 8))) v20r) 13 ((nv (Λ 1 8))) v27r)) (f := 14) (g := 0) (by decide)]
                        rw [ud_ne (D := (ud (ud (ud (ud (ud (ud E 27 T.1 (nI 2)) 28 T.1 (nI ((nv (Λ 1 8))))) 0 15 (nI T.1 + nI 1)) 10 ((nv (Λ 1 8))) v11r) 11 ((nv (Λ 1 8))) v14r) 12 ((nv (Λ 1 8))) v20r)) (f := 13) (g := 0) (by decide)]
                        rw [ud_ne (D := (ud (ud (ud (ud (ud E 27 T.1 (nI 2)) 28 T.1 (nI ((nv (Λ 1 8))))) 0 15 (nI T.1 + nI 1)) 10 ((nv (Λ 1 8))) v11r) 11 ((nv (Λ 1 8))) v14r)) (f := 12) (g := 0) (by decide)]
                        rw [ud_ne (D := (ud (ud (ud (ud E 27 T.1 (nI 2)) 28 T.1 (nI ((nv (Λ 1 8))))) 0 15 (nI T.1 + nI 1)) 10 ((nv (Λ 1 8))) v11r)) (f := 11) (g := 0) (by decide)]
                        rw [ud_ne (D := (ud (ud (ud E 27 T.1 (nI 2)) 28 T.1 (nI ((nv (Λ 1 8))))) 0 15 (nI T.1 + nI 1))) (f := 10) (g := 0) (by decide)]
                        refine And.intro (NWo_0 hN) ?_
                        rw [pp_u20 (y := q) (by omega) (by decide)]
                        refine And.intro ⟨rfl, rfl, Nat.le_refl _, Nat.le_refl _⟩ ?_
                        have hS : rb (bgF (nI (nv (Λ 1 8))) (nI 8) (E 0 0) B n i) (fun i => prayerL T Λ B n i) = .inr (tAdd T (coT B n p7r) 8 (Λ 1 8), ud (ud (ud (ud (ud (ud (ud Λ 9 (nv (Λ 1 8) * 7 + 0) a11r) 9 (nv (Λ 1 8) * 7 + 1) a14r) 9 (nv (Λ 1 8) * 7 + 2) a20r) 9 (nv (Λ 1 8) * 7 + 3) a27r) 9 (nv (Λ 1 8) * 7 + 4) a32r) 9 (nv (Λ 1 8) * 7 + 5) a38r) 9 (nv (Λ 1 8) * 7 + 6) a44r, jr) := by
                          simp only [pf44, pg44x, ph44a, pf38, pg38x, ph38a, pf32, pg32x, pf27, pg27x, ph24, pf20, pg20x, ph20a, pf14, pg14x, pf11, pg11x, ph7, eb, rb_a, rb_i, prayerL, tTell, tU_82, tU_84, pCell_9]
                        rw [ej] at hX44
                        refine hQ _ _ _ _ (FY_t (FY_t (FY_t (FY_t (FY_t (FY_t (FY_t (FY_t (FY_t hy5 hy7) hy11) hy14) hy20) hy24) hy27) hy32) hy38) hy44) ?_
                        rw [hS]
                        rw [vv44]
                        rw [vv38]
                        rw [vv32]
                        rw [vv27]
                        rw [vv20]
                        rw [vv14]
                        rw [vv11]
                        rw [vv7]
                        rw [← hc8q.1]
                        have hb5 := nv_b1 hc8q.1 (by omega)
                        refine ⟨hX44, NR_a hNR ht24 (by decide), ⟨⟨hL0.1, hL0.2.1, hL0.2.2.1, hL0.2.2.2.1, hL0.2.2.2.2.1, hL0.2.2.2.2.2.1, hL0.2.2.2.2.2.2.1, hL0.2.2.2.2.2.2.2.1, hL0.2.2.2.2.2.2.2.2.1, hL0.2.2.2.2.2.2.2.2.2.1, (by first | rfl | exact congrArg (fun z => z + nI 1) hL0.2.2.2.2.2.2.2.2.2.2.1), hL0.2.2.2.2.2.2.2.2.2.2.2.1, hL0.2.2.2.2.2.2.2.2.2.2.2.2.1, hL0.2.2.2.2.2.2.2.2.2.2.2.2.2.1, hL0.2.2.2.2.2.2.2.2.2.2.2.2.2.2⟩, hL1, hL2, hL3, hL4, hL5, hL6, hL7, fun v hv => ?_, hL9, hL10, hL11, hL12⟩⟩
                        have hv2 : v < nv (Λ 1 8) + 1 := by change v < nv (Λ 1 8 + nI 1) at hv; omega
                        by_cases e : v = nv (Λ 1 8)
                        · rw [e]
                          exact ⟨upd_e.trans chq_0.symm, upd_e.trans chq_1.symm, upd_e.trans chq_2.symm, upd_e.trans chq_3.symm, upd_e.trans chq_4.symm, upd_e.trans chq_5.symm, upd_e.trans chq_6.symm⟩
                        · have h9 := hL8 v (by omega)
                          exact ⟨(upd_o e).trans (h9.1.trans (cho_0 e).symm), (upd_o e).trans (h9.2.1.trans (cho_1 e).symm), (upd_o e).trans (h9.2.2.1.trans (cho_2 e).symm), (upd_o e).trans (h9.2.2.2.1.trans (cho_3 e).symm), (upd_o e).trans (h9.2.2.2.2.1.trans (cho_4 e).symm), (upd_o e).trans (h9.2.2.2.2.2.1.trans (cho_5 e).symm), (upd_o e).trans (h9.2.2.2.2.2.2.trans (cho_6 e).symm)⟩
                      · -- 49 not: D44r 0 9 = nI 5
                        refine And.intro ⟨rfl, rfl, Nat.le_refl _, Nat.le_refl _⟩ ?_
                        obtain ⟨er, ee⟩ := RX_5 hX44 cz49
                        rw [ee] at hX44
                        subst eX44
                        subst eX44a
                        subst eX38
                        subst eX38a
                        subst eX32
                        subst eX27
                        subst eX24
                        subst eX20
                        subst eX20a
                        subst eX14
                        subst eX11
                        subst eX7
                        subst eX5
                        refine hQ _ _ _ _ (FY_t (FY_t (FY_t (FY_t (FY_t (FY_t (FY_t (FY_t (FY_t hy5 hy7) hy11) hy14) hy20) hy24) hy27) hy32) hy38) hy44) (lnPt_l (Eq.trans ?_ ee) hX44)
                        simp only [rb_a, rb_i, rb_d, prayerL, tTell, tU_82, tU_84, pCell_9]
theorem L241 {d : Nat} {m : Mm} {Q : Option Value → Mm → Prop} {q : Nat} {E : Nat → Nat → Int32} {L : Nat → Nat → Int64} (hW : Wd m.2.2) (hN : NW m.2.2 q) (hdq : q + 29 ≤ 142 ∨ 142 + 3 ≤ q) {D : Nat → Nat → Int32} {K : Nat → Nat → Int64} {Λ : Nat → Nat → Int32} {T : NT} (hq4 : va_rf (mR m 142 4) = .ref q) (hLQ : LQ Λ E) (hNR : NR T E L) (hI : LRI T Λ) {B : Nat → Int32} {n i : Nat} (hR : RBy B n D) (hT : TR B n i D K) (hi : i ≤ n) (h14 : D 0 14 = nI 0) (kk2 : kiF B n i = 2) (hd : 13 ≤ d) (hQ : ∀ D1 K1 E1 L1, FY D D1 → lnPt B n 11 (rb (bgF (nI (nv (Λ 1 11))) (nI 6) (E 0 0) B n i) (fun i => spellL T Λ B n i)) D1 K1 E1 L1 → Q none (pp m 142 3 D1 K1 q 29 E1 L1)) : Cc d 0 0 241 [.ref 142] (pp m 142 3 D K q 29 E L) Q := by
  obtain ⟨hL0, hL1, hL2, hL3, hL4, hL5, hL6, hL7, hL8, hL9, hL10, hL11, hL12⟩ := hLQ
  obtain ⟨hC, hWI, hNN, hVI⟩ := hI
  obtain ⟨hn0, hTS2, hTS4, hTS8⟩ := hNN
  have hc2q := hC 2 (by decide)
  have hc4q := hC 4 (by decide)
  have hc8q := hC 8 (by decide)
  have hc10q := hC 10 (by decide)
  have hc11q := hC 11 (by decide)
  refine ent (n := 168) z241 (by decide) rfl (by decide) (Nat.le_of_ble_eq_true rfl) (fun sc => ?_)
  refine And.intro (Wdo_142 hW) (Exists.intro _ (And.intro hq4 ?_))
  refine And.intro (NWo_0 hN) ?_
  rw [pp_20 (y := q) (by omega) (by decide)]
  rw [(show E 0 13 = nI (nv (Λ 1 11)) from hL0.2.2.2.2.2.2.2.2.2.2.2.2.2.1.trans hc11q.1)]
  refine And.intro ⟨by omega, Nat.le_of_ble_eq_true rfl, Nat.le_refl _, Nat.le_refl _⟩ (And.intro (Wdo_142 hW) ?_)
  refine L220 hW hN hdq hq4 hR hT hi h14 kk2 (by omega) (fun D5r K5r hX5 hy5 => ?_)
  generalize eX5 : bgF (nI ((nv (Λ 1 11)))) (nI 6) (E 0 0) B n i = X5r at hX5
  · -- a way behind the call
    refine And.intro ⟨by omega, Nat.le_of_ble_eq_true rfl, Nat.le_refl _, Nat.le_refl _⟩ (And.intro (Wdo_142 hW) ?_)
    refine X213 (s0 := 53) hW hN hdq hX5 (by decide) (by decide) wo_53 (by omega) ?_
    refine And.intro (fun cz9 => ?_) (fun cz9 => ?_)
    · -- 9 taken: bi (wqX B n X5r (lN 37011)) = 0
      refine And.intro ⟨by omega, Nat.le_of_ble_eq_true rfl, Nat.le_refl _, Nat.le_refl _⟩ (And.intro (Wdo_142 hW) ?_)
      refine X213 (s0 := 54) hW hN hdq hX5 (by decide) (by decide) wo_54 (by omega) ?_
      refine And.intro (fun cz15 => ?_) (fun cz15 => ?_)
      · -- 15 taken: bi (wqX B n X5r (lN 21015731)) = 0
        refine And.intro ⟨by omega, Nat.le_of_ble_eq_true rfl, Nat.le_refl _, Nat.le_refl _⟩ (And.intro (Wdo_142 hW) ?_)
        refine X213 (s0 := 55) hW hN hdq hX5 (by decide) (by decide) wo_55 (by omega) ?_
        refine And.intro (fun cz21 => ?_) (fun cz21 => ?_)
        · -- 21 taken: bi (wqX B n X5r (lN 21279923)) = 0
          refine And.intro ⟨by omega, Nat.le_of_ble_eq_true rfl, Nat.le_refl _, Nat.le_refl _⟩ (And.intro (Wdo_142 hW) ?_)
          refine X213 (s0 := 56) hW hN hdq hX5 (by decide) (by decide) wo_56 (by omega) ?_
          refine And.intro (fun cz27 => ?_) (fun cz27 => ?_)
          · -- 27 taken: bi (wqX B n X5r (lN 645974195)) = 0
            refine And.intro (fun cz34 => False.elim (cz34 rfl)) (fun cz34 => ?_)
            refine And.intro ⟨by omega, Nat.le_of_ble_eq_true rfl, Nat.le_refl _, Nat.le_refl _⟩ (And.intro (Wdo_142 hW) ?_)
            refine X212 (f := 1) hW hN hdq hX5 (fun D37r hX37 hy37 => ?_)
            · -- a way behind the call
              refine And.intro ⟨by omega, Nat.le_of_ble_eq_true rfl, Nat.le_refl _, Nat.le_refl _⟩ (And.intro (Wdo_142 hW) ?_)
              refine X211 hW hN hdq hX37 (fun i e => by obtain ⟨_, _, h⟩ := rb_r e; cases h) (by omega) (fun D39r K39r hX39 hy39 => ?_)
              · -- a way behind the call
                have hpk39 := pk_n (X := X5r) (cs := [lN 37011, lN 21015731, lN 21279923, lN 645974195]) (fun i e h2 => by rw [ixF, if_neg (wq_n (bi_eq0.mp cz9) e h2), ixF, if_neg (wq_n (bi_eq0.mp cz15) e h2), ixF, if_neg (wq_n (bi_eq0.mp cz21) e h2), ixF, if_neg (wq_n (bi_eq0.mp cz27) e h2), ixF])
                rw [hpk39.1] at hX39
                have hv39 : ∀ i9 a j, X5r = .inr i9 → pPick [lN 37011, lN 21015731, lN 21279923, lN 645974195] B n i9 = .inr (a, j) → -nI 1 = a := fun i9 a j e z => absurd z (hpk39.2 i9 a j e)
                generalize eX39 : rb X5r (fun i => rb (pPick [lN 37011, lN 21015731, lN 21279923, lN 645974195] B n i) fun a => .inr a.2) = X39r at hX39
                refine And.intro ⟨by omega, Nat.le_of_ble_eq_true rfl, Nat.le_refl _, Nat.le_refl _⟩ (And.intro (Wdo_142 hW) ?_)
                refine X217 hW hN hdq hX39 (by omega) (fun D43r K43r v43r hX43 hy43 hv43 => ?_)
                generalize eX43 : rb X39r (fun i => rb (pWhole (nI 1) (nI 9) B n i) fun a => .inr a.2) = X43r at hX43
                · -- a way behind the call
                  refine And.intro (Wdo_142 hW) ?_
                  rw [pp_10 (x := 142) (by decide)]
                  refine And.intro (fun cz48 => ?_) (fun cz48 => ?_)
                  · -- 48 taken: ¬ D43r 0 9 = nI 5
                    obtain ⟨jr, ej⟩ := RX_n hX43 cz48; obtain ⟨p43r, pe43, ph43⟩ := rb_r (eX43.trans ej); obtain ⟨⟨a43r, q43r⟩, pf43, pg43⟩ := rb_r ph43; have vv43 := hv43 _ _ _ pe43 pf43; have pg43x : q43r = _ := Sum.inr.inj pg43; obtain ⟨p39r, pe39, ph39⟩ := rb_r (eX39.trans pe43); obtain ⟨⟨a39r, q39r⟩, pf39, pg39⟩ := rb_r ph39; have vv39 := hv39 _ _ _ pe39 pf39; have pg39x : q39r = _ := Sum.inr.inj pg39; have eb := eX5.trans pe39; obtain ⟨hb1, hb2, hb3⟩ := bgF_r eb
                    have hlt : nv (Λ 1 11) < 6 := by rcases Nat.lt_or_ge (nv (Λ 1 11)) 6 with z | z; exact z; exact absurd (congrArg nI (show nv (Λ 1 11) = 6 by have := hc11q.2; change _ ≤ 6 at this; omega)) hb1
                    refine And.intro (Wdo_142 hW) (Exists.intro _ (And.intro hq4 ?_))
                    refine And.intro (NWo_0 hN) (Exists.intro _ (And.intro (NWr_0_36 hN) ?_))
                    refine And.intro (Wdo_142 hW) (Exists.intro _ (And.intro hq4 ?_))
                    refine And.intro (NWo_0 hN) ?_
                    rw [pp_20 (y := q) (by omega) (by decide)]
                    rw [(show E 0 13 = nI (nv (Λ 1 11)) from hL0.2.2.2.2.2.2.2.2.2.2.2.2.2.1.trans hc11q.1)]
                    refine And.intro (NWi_20 hN (vi rfl (by omega))) ?_
                    rw [nI_clamp (show (nv (Λ 1 11)) < 2 ^ 31 by omega)]
                    rw [pp_u2 (y := q) (f := 20) (by omega) (by decide)]
                    refine And.intro (Wdo_142 hW) (Exists.intro _ (And.intro hq4 ?_))
                    refine And.intro (NWo_0 hN) (Exists.intro _ (And.intro (NWr_0_37 hN) ?_))
                    refine And.intro (Wdo_142 hW) (Exists.intro _ (And.intro hq4 ?_))
                    refine And.intro (NWo_0 hN) ?_
                    rw [pp_20 (y := q) (by omega) (by decide)]
                    rw [ud_ne (D := E) (f := 20) (g := 0) (by decide)]
                    rw [(show E 0 13 = nI (nv (Λ 1 11)) from hL0.2.2.2.2.2.2.2.2.2.2.2.2.2.1.trans hc11q.1)]
                    refine And.intro (NWi_21 hN (vi rfl (by omega))) ?_
                    rw [nI_clamp (show (nv (Λ 1 11)) < 2 ^ 31 by omega)]
                    rw [pp_u2 (y := q) (f := 21) (by omega) (by decide)]
                    refine And.intro (Wdo_142 hW) (Exists.intro _ (And.intro hq4 ?_))
                    refine And.intro rfl ?_
                    refine And.intro (NWo_0 hN) ?_
                    rw [pp_20 (y := q) (by omega) (by decide)]
                    rw [ud_ne (D := (ud E 20 ((nv (Λ 1 11))) (-nI 1))) (f := 21) (g := 0) (by decide)]
                    rw [ud_ne (D := E) (f := 20) (g := 0) (by decide)]
                    rw [(show E 0 13 = nI (nv (Λ 1 11)) from hL0.2.2.2.2.2.2.2.2.2.2.2.2.2.1.trans hc11q.1)]
                    refine And.intro (NWo_0 hN) ?_
                    rw [pp_u20 (y := q) (by omega) (by decide)]
                    refine And.intro ⟨rfl, rfl, Nat.le_refl _, Nat.le_refl _⟩ ?_
                    have hS : rb (bgF (nI (nv (Λ 1 11))) (nI 6) (E 0 0) B n i) (fun i => spellL T Λ B n i) = .inr (T, ud (ud Λ 12 (nv (Λ 1 11)) a39r) 13 (nv (Λ 1 11)) a43r, jr) := by
                      simp only [pf43, pg43x, pf39, pg39x, eb, rb_a, rb_i, spellL]
                    rw [ej] at hX43
                    refine hQ _ _ _ _ (FY_t (FY_t (FY_t hy5 hy37) hy39) hy43) ?_
                    rw [hS]
                    rw [vv43]
                    subst vv39
                    rw [← hc11q.1]
                    have hb5 := nv_b1 hc11q.1 (by omega)
                    refine ⟨hX43, hNR, ⟨⟨hL0.1, hL0.2.1, hL0.2.2.1, hL0.2.2.2.1, hL0.2.2.2.2.1, hL0.2.2.2.2.2.1, hL0.2.2.2.2.2.2.1, hL0.2.2.2.2.2.2.2.1, hL0.2.2.2.2.2.2.2.2.1, hL0.2.2.2.2.2.2.2.2.2.1, hL0.2.2.2.2.2.2.2.2.2.2.1, hL0.2.2.2.2.2.2.2.2.2.2.2.1, hL0.2.2.2.2.2.2.2.2.2.2.2.2.1, (by first | rfl | exact congrArg (fun z => z + nI 1) hL0.2.2.2.2.2.2.2.2.2.2.2.2.2.1), hL0.2.2.2.2.2.2.2.2.2.2.2.2.2.2⟩, hL1, hL2, hL3, hL4, hL5, hL6, hL7, hL8, hL9, hL10, fun v hv => ?_, hL12⟩⟩
                    have hv2 : v < nv (Λ 1 11) + 1 := by change v < nv (Λ 1 11 + nI 1) at hv; omega
                    exact ⟨upd_q (fun z => (hL11 v (by omega)).1), upd_q (fun z => (hL11 v (by omega)).2)⟩
                  · -- 48 not: D43r 0 9 = nI 5
                    refine And.intro ⟨rfl, rfl, Nat.le_refl _, Nat.le_refl _⟩ ?_
                    obtain ⟨er, ee⟩ := RX_5 hX43 cz48
                    rw [ee] at hX43
                    subst eX43
                    subst eX39
                    subst eX5
                    refine hQ _ _ _ _ (FY_t (FY_t (FY_t hy5 hy37) hy39) hy43) (lnPt_l (Eq.trans ?_ ee) hX43)
                    simp only [rb_a, rb_i, rb_d, spellL]
          · -- 27 not: ¬ bi (wqX B n X5r (lN 645974195)) = 0
            refine And.intro (fun cz34 => ?_) (fun cz34 => False.elim (absurd cz34 (by decide)))
            refine And.intro ⟨by omega, Nat.le_of_ble_eq_true rfl, Nat.le_refl _, Nat.le_refl _⟩ (And.intro (Wdo_142 hW) ?_)
            refine X211 hW hN hdq hX5 (fun i e => by rw [wq_2 (bi_ne0.mp cz27) e]; decide) (by omega) (fun D39r K39r hX39 hy39 => ?_)
            · -- a way behind the call
              have hpk39 := pk_y (cs := [lN 37011, lN 21015731, lN 21279923, lN 645974195]) (k := nI 3) (bi_ne0.mp cz27) (by decide) (by decide)
              rw [hpk39.1] at hX39
              have hv39 := hpk39.2
              generalize eX39 : rb X5r (fun i => rb (pPick [lN 37011, lN 21015731, lN 21279923, lN 645974195] B n i) fun a => .inr a.2) = X39r at hX39
              refine And.intro ⟨by omega, Nat.le_of_ble_eq_true rfl, Nat.le_refl _, Nat.le_refl _⟩ (And.intro (Wdo_142 hW) ?_)
              refine X217 hW hN hdq hX39 (by omega) (fun D43r K43r v43r hX43 hy43 hv43 => ?_)
              generalize eX43 : rb X39r (fun i => rb (pWhole (nI 1) (nI 9) B n i) fun a => .inr a.2) = X43r at hX43
              · -- a way behind the call
                refine And.intro (Wdo_142 hW) ?_
                rw [pp_10 (x := 142) (by decide)]
                refine And.intro (fun cz48 => ?_) (fun cz48 => ?_)
                · -- 48 taken: ¬ D43r 0 9 = nI 5
                  obtain ⟨jr, ej⟩ := RX_n hX43 cz48; obtain ⟨p43r, pe43, ph43⟩ := rb_r (eX43.trans ej); obtain ⟨⟨a43r, q43r⟩, pf43, pg43⟩ := rb_r ph43; have vv43 := hv43 _ _ _ pe43 pf43; have pg43x : q43r = _ := Sum.inr.inj pg43; obtain ⟨p39r, pe39, ph39⟩ := rb_r (eX39.trans pe43); obtain ⟨⟨a39r, q39r⟩, pf39, pg39⟩ := rb_r ph39; have vv39 := hv39 _ _ _ pe39 pf39; have pg39x : q39r = _ := Sum.inr.inj pg39; have eb := eX5.trans pe39; obtain ⟨hb1, hb2, hb3⟩ := bgF_r eb
                  have hlt : nv (Λ 1 11) < 6 := by rcases Nat.lt_or_ge (nv (Λ 1 11)) 6 with z | z; exact z; exact absurd (congrArg nI (show nv (Λ 1 11) = 6 by have := hc11q.2; change _ ≤ 6 at this; omega)) hb1
                  refine And.intro (Wdo_142 hW) (Exists.intro _ (And.intro hq4 ?_))
                  refine And.intro (NWo_0 hN) (Exists.intro _ (And.intro (NWr_0_36 hN) ?_))
                  refine And.intro (Wdo_142 hW) (Exists.intro _ (And.intro hq4 ?_))
                  refine And.intro (NWo_0 hN) ?_
                  rw [pp_20 (y := q) (by omega) (by decide)]
                  rw [(show E 0 13 = nI (nv (Λ 1 11)) from hL0.2.2.2.2.2.2.2.2.2.2.2.2.2.1.trans hc11q.1)]
                  refine And.intro (NWi_20 hN (vi rfl (by omega))) ?_
                  rw [nI_clamp (show (nv (Λ 1 11)) < 2 ^ 31 by omega)]
                  rw [pp_u2 (y := q) (f := 20) (by omega) (by decide)]
                  refine And.intro (Wdo_142 hW) (Exists.intro _ (And.intro hq4 ?_))
                  refine And.intro (NWo_0 hN) (Exists.intro _ (And.intro (NWr_0_37 hN) ?_))
                  refine And.intro (Wdo_142 hW) (Exists.intro _ (And.intro hq4 ?_))
                  refine And.intro (NWo_0 hN) ?_
                  rw [pp_20 (y := q) (by omega) (by decide)]
                  rw [ud_ne (D := E) (f := 20) (g := 0) (by decide)]
                  rw [(show E 0 13 = nI (nv (Λ 1 11)) from hL0.2.2.2.2.2.2.2.2.2.2.2.2.2.1.trans hc11q.1)]
                  refine And.intro (NWi_21 hN (vi rfl (by omega))) ?_
                  rw [nI_clamp (show (nv (Λ 1 11)) < 2 ^ 31 by omega)]
                  rw [pp_u2 (y := q) (f := 21) (by omega) (by decide)]
                  refine And.intro (Wdo_142 hW) (Exists.intro _ (And.intro hq4 ?_))
                  refine And.intro rfl ?_
                  refine And.intro (NWo_0 hN) ?_
                  rw [pp_20 (y := q) (by omega) (by decide)]
                  rw [ud_ne (D := (ud E 20 ((nv (Λ 1 11))) (nI 3))) (f := 21) (g := 0) (by decide)]
                  rw [ud_ne (D := E) (f := 20) (g := 0) (by decide)]
                  rw [(show E 0 13 = nI (nv (Λ 1 11)) from hL0.2.2.2.2.2.2.2.2.2.2.2.2.2.1.trans hc11q.1)]
                  refine And.intro (NWo_0 hN) ?_
                  rw [pp_u20 (y := q) (by omega) (by decide)]
                  refine And.intro ⟨rfl, rfl, Nat.le_refl _, Nat.le_refl _⟩ ?_
                  have hS : rb (bgF (nI (nv (Λ 1 11))) (nI 6) (E 0 0) B n i) (fun i => spellL T Λ B n i) = .inr (T, ud (ud Λ 12 (nv (Λ 1 11)) a39r) 13 (nv (Λ 1 11)) a43r, jr) := by
                    simp only [pf43, pg43x, pf39, pg39x, eb, rb_a, rb_i, spellL]
                  rw [ej] at hX43
                  refine hQ _ _ _ _ (FY_t (FY_t hy5 hy39) hy43) ?_
                  rw [hS]
                  rw [vv43]
                  subst vv39
                  rw [← hc11q.1]
                  have hb5 := nv_b1 hc11q.1 (by omega)
                  refine ⟨hX43, hNR, ⟨⟨hL0.1, hL0.2.1, hL0.2.2.1, hL0.2.2.2.1, hL0.2.2.2.2.1, hL0.2.2.2.2.2.1, hL0.2.2.2.2.2.2.1, hL0.2.2.2.2.2.2.2.1, hL0.2.2.2.2.2.2.2.2.1, hL0.2.2.2.2.2.2.2.2.2.1, hL0.2.2.2.2.2.2.2.2.2.2.1, hL0.2.2.2.2.2.2.2.2.2.2.2.1, hL0.2.2.2.2.2.2.2.2.2.2.2.2.1, (by first | rfl | exact congrArg (fun z => z + nI 1) hL0.2.2.2.2.2.2.2.2.2.2.2.2.2.1), hL0.2.2.2.2.2.2.2.2.2.2.2.2.2.2⟩, hL1, hL2, hL3, hL4, hL5, hL6, hL7, hL8, hL9, hL10, fun v hv => ?_, hL12⟩⟩
                  have hv2 : v < nv (Λ 1 11) + 1 := by change v < nv (Λ 1 11 + nI 1) at hv; omega
                  exact ⟨upd_q (fun z => (hL11 v (by omega)).1), upd_q (fun z => (hL11 v (by omega)).2)⟩
                · -- 48 not: D43r 0 9 = nI 5
                  refine And.intro ⟨rfl, rfl, Nat.le_refl _, Nat.le_refl _⟩ ?_
                  obtain ⟨er, ee⟩ := RX_5 hX43 cz48
                  rw [ee] at hX43
                  subst eX43
                  subst eX39
                  subst eX5
                  refine hQ _ _ _ _ (FY_t (FY_t hy5 hy39) hy43) (lnPt_l (Eq.trans ?_ ee) hX43)
                  simp only [rb_a, rb_i, rb_d, spellL]
        · -- 21 not: ¬ bi (wqX B n X5r (lN 21279923)) = 0
          refine And.intro (fun cz34 => ?_) (fun cz34 => False.elim (absurd cz34 (by decide)))
          refine And.intro ⟨by omega, Nat.le_of_ble_eq_true rfl, Nat.le_refl _, Nat.le_refl _⟩ (And.intro (Wdo_142 hW) ?_)
          refine X211 hW hN hdq hX5 (fun i e => by rw [wq_2 (bi_ne0.mp cz21) e]; decide) (by omega) (fun D39r K39r hX39 hy39 => ?_)
          · -- a way behind the call
            have hpk39 := pk_y (cs := [lN 37011, lN 21015731, lN 21279923, lN 645974195]) (k := nI 2) (bi_ne0.mp cz21) (by decide) (by decide)
            rw [hpk39.1] at hX39
            have hv39 := hpk39.2
            generalize eX39 : rb X5r (fun i => rb (pPick [lN 37011, lN 21015731, lN 21279923, lN 645974195] B n i) fun a => .inr a.2) = X39r at hX39
            refine And.intro ⟨by omega, Nat.le_of_ble_eq_true rfl, Nat.le_refl _, Nat.le_refl _⟩ (And.intro (Wdo_142 hW) ?_)
            refine X217 hW hN hdq hX39 (by omega) (fun D43r K43r v43r hX43 hy43 hv43 => ?_)
            generalize eX43 : rb X39r (fun i => rb (pWhole (nI 1) (nI 9) B n i) fun a => .inr a.2) = X43r at hX43
            · -- a way behind the call
              refine And.intro (Wdo_142 hW) ?_
              rw [pp_10 (x := 142) (by decide)]
              refine And.intro (fun cz48 => ?_) (fun cz48 => ?_)
              · -- 48 taken: ¬ D43r 0 9 = nI 5
                obtain ⟨jr, ej⟩ := RX_n hX43 cz48; obtain ⟨p43r, pe43, ph43⟩ := rb_r (eX43.trans ej); obtain ⟨⟨a43r, q43r⟩, pf43, pg43⟩ := rb_r ph43; have vv43 := hv43 _ _ _ pe43 pf43; have pg43x : q43r = _ := Sum.inr.inj pg43; obtain ⟨p39r, pe39, ph39⟩ := rb_r (eX39.trans pe43); obtain ⟨⟨a39r, q39r⟩, pf39, pg39⟩ := rb_r ph39; have vv39 := hv39 _ _ _ pe39 pf39; have pg39x : q39r = _ := Sum.inr.inj pg39; have eb := eX5.trans pe39; obtain ⟨hb1, hb2, hb3⟩ := bgF_r eb
                have hlt : nv (Λ 1 11) < 6 := by rcases Nat.lt_or_ge (nv (Λ 1 11)) 6 with z | z; exact z; exact absurd (congrArg nI (show nv (Λ 1 11) = 6 by have := hc11q.2; change _ ≤ 6 at this; omega)) hb1
                refine And.intro (Wdo_142 hW) (Exists.intro _ (And.intro hq4 ?_))
                refine And.intro (NWo_0 hN) (Exists.intro _ (And.intro (NWr_0_36 hN) ?_))
                refine And.intro (Wdo_142 hW) (Exists.intro _ (And.intro hq4 ?_))
                refine And.intro (NWo_0 hN) ?_
                rw [pp_20 (y := q) (by omega) (by decide)]
                rw [(show E 0 13 = nI (nv (Λ 1 11)) from hL0.2.2.2.2.2.2.2.2.2.2.2.2.2.1.trans hc11q.1)]
                refine And.intro (NWi_20 hN (vi rfl (by omega))) ?_
                rw [nI_clamp (show (nv (Λ 1 11)) < 2 ^ 31 by omega)]
                rw [pp_u2 (y := q) (f := 20) (by omega) (by decide)]
                refine And.intro (Wdo_142 hW) (Exists.intro _ (And.intro hq4 ?_))
                refine And.intro (NWo_0 hN) (Exists.intro _ (And.intro (NWr_0_37 hN) ?_))
                refine And.intro (Wdo_142 hW) (Exists.intro _ (And.intro hq4 ?_))
                refine And.intro (NWo_0 hN) ?_
                rw [pp_20 (y := q) (by omega) (by decide)]
                rw [ud_ne (D := E) (f := 20) (g := 0) (by decide)]
                rw [(show E 0 13 = nI (nv (Λ 1 11)) from hL0.2.2.2.2.2.2.2.2.2.2.2.2.2.1.trans hc11q.1)]
                refine And.intro (NWi_21 hN (vi rfl (by omega))) ?_
                rw [nI_clamp (show (nv (Λ 1 11)) < 2 ^ 31 by omega)]
                rw [pp_u2 (y := q) (f := 21) (by omega) (by decide)]
                refine And.intro (Wdo_142 hW) (Exists.intro _ (And.intro hq4 ?_))
                refine And.intro rfl ?_
                refine And.intro (NWo_0 hN) ?_
                rw [pp_20 (y := q) (by omega) (by decide)]
                rw [ud_ne (D := (ud E 20 ((nv (Λ 1 11))) (nI 2))) (f := 21) (g := 0) (by decide)]
                rw [ud_ne (D := E) (f := 20) (g := 0) (by decide)]
                rw [(show E 0 13 = nI (nv (Λ 1 11)) from hL0.2.2.2.2.2.2.2.2.2.2.2.2.2.1.trans hc11q.1)]
                refine And.intro (NWo_0 hN) ?_
                rw [pp_u20 (y := q) (by omega) (by decide)]
                refine And.intro ⟨rfl, rfl, Nat.le_refl _, Nat.le_refl _⟩ ?_
                have hS : rb (bgF (nI (nv (Λ 1 11))) (nI 6) (E 0 0) B n i) (fun i => spellL T Λ B n i) = .inr (T, ud (ud Λ 12 (nv (Λ 1 11)) a39r) 13 (nv (Λ 1 11)) a43r, jr) := by
                  simp only [pf43, pg43x, pf39, pg39x, eb, rb_a, rb_i, spellL]
                rw [ej] at hX43
                refine hQ _ _ _ _ (FY_t (FY_t hy5 hy39) hy43) ?_
                rw [hS]
                rw [vv43]
                subst vv39
                rw [← hc11q.1]
                have hb5 := nv_b1 hc11q.1 (by omega)
                refine ⟨hX43, hNR, ⟨⟨hL0.1, hL0.2.1, hL0.2.2.1, hL0.2.2.2.1, hL0.2.2.2.2.1, hL0.2.2.2.2.2.1, hL0.2.2.2.2.2.2.1, hL0.2.2.2.2.2.2.2.1, hL0.2.2.2.2.2.2.2.2.1, hL0.2.2.2.2.2.2.2.2.2.1, hL0.2.2.2.2.2.2.2.2.2.2.1, hL0.2.2.2.2.2.2.2.2.2.2.2.1, hL0.2.2.2.2.2.2.2.2.2.2.2.2.1, (by first | rfl | exact congrArg (fun z => z + nI 1) hL0.2.2.2.2.2.2.2.2.2.2.2.2.2.1), hL0.2.2.2.2.2.2.2.2.2.2.2.2.2.2⟩, hL1, hL2, hL3, hL4, hL5, hL6, hL7, hL8, hL9, hL10, fun v hv => ?_, hL12⟩⟩
                have hv2 : v < nv (Λ 1 11) + 1 := by change v < nv (Λ 1 11 + nI 1) at hv; omega
                exact ⟨upd_q (fun z => (hL11 v (by omega)).1), upd_q (fun z => (hL11 v (by omega)).2)⟩
              · -- 48 not: D43r 0 9 = nI 5
                refine And.intro ⟨rfl, rfl, Nat.le_refl _, Nat.le_refl _⟩ ?_
                obtain ⟨er, ee⟩ := RX_5 hX43 cz48
                rw [ee] at hX43
                subst eX43
                subst eX39
                subst eX5
                refine hQ _ _ _ _ (FY_t (FY_t hy5 hy39) hy43) (lnPt_l (Eq.trans ?_ ee) hX43)
                simp only [rb_a, rb_i, rb_d, spellL]
      · -- 15 not: ¬ bi (wqX B n X5r (lN 21015731)) = 0
        refine And.intro (fun cz34 => ?_) (fun cz34 => False.elim (absurd cz34 (by decide)))
        refine And.intro ⟨by omega, Nat.le_of_ble_eq_true rfl, Nat.le_refl _, Nat.le_refl _⟩ (And.intro (Wdo_142 hW) ?_)
        refine X211 hW hN hdq hX5 (fun i e => by rw [wq_2 (bi_ne0.mp cz15) e]; decide) (by omega) (fun D39r K39r hX39 hy39 => ?_)
        · -- a way behind the call
          have hpk39 := pk_y (cs := [lN 37011, lN 21015731, lN 21279923, lN 645974195]) (k := nI 1) (bi_ne0.mp cz15) (by decide) (by decide)
          rw [hpk39.1] at hX39
          have hv39 := hpk39.2
          generalize eX39 : rb X5r (fun i => rb (pPick [lN 37011, lN 21015731, lN 21279923, lN 645974195] B n i) fun a => .inr a.2) = X39r at hX39
          refine And.intro ⟨by omega, Nat.le_of_ble_eq_true rfl, Nat.le_refl _, Nat.le_refl _⟩ (And.intro (Wdo_142 hW) ?_)
          refine X217 hW hN hdq hX39 (by omega) (fun D43r K43r v43r hX43 hy43 hv43 => ?_)
          generalize eX43 : rb X39r (fun i => rb (pWhole (nI 1) (nI 9) B n i) fun a => .inr a.2) = X43r at hX43
          · -- a way behind the call
            refine And.intro (Wdo_142 hW) ?_
            rw [pp_10 (x := 142) (by decide)]
            refine And.intro (fun cz48 => ?_) (fun cz48 => ?_)
            · -- 48 taken: ¬ D43r 0 9 = nI 5
              obtain ⟨jr, ej⟩ := RX_n hX43 cz48; obtain ⟨p43r, pe43, ph43⟩ := rb_r (eX43.trans ej); obtain ⟨⟨a43r, q43r⟩, pf43, pg43⟩ := rb_r ph43; have vv43 := hv43 _ _ _ pe43 pf43; have pg43x : q43r = _ := Sum.inr.inj pg43; obtain ⟨p39r, pe39, ph39⟩ := rb_r (eX39.trans pe43); obtain ⟨⟨a39r, q39r⟩, pf39, pg39⟩ := rb_r ph39; have vv39 := hv39 _ _ _ pe39 pf39; have pg39x : q39r = _ := Sum.inr.inj pg39; have eb := eX5.trans pe39; obtain ⟨hb1, hb2, hb3⟩ := bgF_r eb
              have hlt : nv (Λ 1 11) < 6 := by rcases Nat.lt_or_ge (nv (Λ 1 11)) 6 with z | z; exact z; exact absurd (congrArg nI (show nv (Λ 1 11) = 6 by have := hc11q.2; change _ ≤ 6 at this; omega)) hb1
              refine And.intro (Wdo_142 hW) (Exists.intro _ (And.intro hq4 ?_))
              refine And.intro (NWo_0 hN) (Exists.intro _ (And.intro (NWr_0_36 hN) ?_))
              refine And.intro (Wdo_142 hW) (Exists.intro _ (And.intro hq4 ?_))
              refine And.intro (NWo_0 hN) ?_
              rw [pp_20 (y := q) (by omega) (by decide)]
              rw [(show E 0 13 = nI (nv (Λ 1 11)) from hL0.2.2.2.2.2.2.2.2.2.2.2.2.2.1.trans hc11q.1)]
              refine And.intro (NWi_20 hN (vi rfl (by omega))) ?_
              rw [nI_clamp (show (nv (Λ 1 11)) < 2 ^ 31 by omega)]
              rw [pp_u2 (y := q) (f := 20) (by omega) (by decide)]
              refine And.intro (Wdo_142 hW) (Exists.intro _ (And.intro hq4 ?_))
              refine And.intro (NWo_0 hN) (Exists.intro _ (And.intro (NWr_0_37 hN) ?_))
              refine And.intro (Wdo_142 hW) (Exists.intro _ (And.intro hq4 ?_))
              refine And.intro (NWo_0 hN) ?_
              rw [pp_20 (y := q) (by omega) (by decide)]
              rw [ud_ne (D := E) (f := 20) (g := 0) (by decide)]
              rw [(show E 0 13 = nI (nv (Λ 1 11)) from hL0.2.2.2.2.2.2.2.2.2.2.2.2.2.1.trans hc11q.1)]
              refine And.intro (NWi_21 hN (vi rfl (by omega))) ?_
              rw [nI_clamp (show (nv (Λ 1 11)) < 2 ^ 31 by omega)]
              rw [pp_u2 (y := q) (f := 21) (by omega) (by decide)]
              refine And.intro (Wdo_142 hW) (Exists.intro _ (And.intro hq4 ?_))
              refine And.intro rfl ?_
              refine And.intro (NWo_0 hN) ?_
              rw [pp_20 (y := q) (by omega) (by decide)]
              rw [ud_ne (D := (ud E 20 ((nv (Λ 1 11))) (nI 1))) (f := 21) (g := 0) (by decide)]
              rw [ud_ne (D := E) (f := 20) (g := 0) (by decide)]
              rw [(show E 0 13 = nI (nv (Λ 1 11)) from hL0.2.2.2.2.2.2.2.2.2.2.2.2.2.1.trans hc11q.1)]
              refine And.intro (NWo_0 hN) ?_
              rw [pp_u20 (y := q) (by omega) (by decide)]
              refine And.intro ⟨rfl, rfl, Nat.le_refl _, Nat.le_refl _⟩ ?_
              have hS : rb (bgF (nI (nv (Λ 1 11))) (nI 6) (E 0 0) B n i) (fun i => spellL T Λ B n i) = .inr (T, ud (ud Λ 12 (nv (Λ 1 11)) a39r) 13 (nv (Λ 1 11)) a43r, jr) := by
                simp only [pf43, pg43x, pf39, pg39x, eb, rb_a, rb_i, spellL]
              rw [ej] at hX43
              refine hQ _ _ _ _ (FY_t (FY_t hy5 hy39) hy43) ?_
              rw [hS]
              rw [vv43]
              subst vv39
              rw [← hc11q.1]
              have hb5 := nv_b1 hc11q.1 (by omega)
              refine ⟨hX43, hNR, ⟨⟨hL0.1, hL0.2.1, hL0.2.2.1, hL0.2.2.2.1, hL0.2.2.2.2.1, hL0.2.2.2.2.2.1, hL0.2.2.2.2.2.2.1, hL0.2.2.2.2.2.2.2.1, hL0.2.2.2.2.2.2.2.2.1, hL0.2.2.2.2.2.2.2.2.2.1, hL0.2.2.2.2.2.2.2.2.2.2.1, hL0.2.2.2.2.2.2.2.2.2.2.2.1, hL0.2.2.2.2.2.2.2.2.2.2.2.2.1, (by first | rfl | exact congrArg (fun z => z + nI 1) hL0.2.2.2.2.2.2.2.2.2.2.2.2.2.1), hL0.2.2.2.2.2.2.2.2.2.2.2.2.2.2⟩, hL1, hL2, hL3, hL4, hL5, hL6, hL7, hL8, hL9, hL10, fun v hv => ?_, hL12⟩⟩
              have hv2 : v < nv (Λ 1 11) + 1 := by change v < nv (Λ 1 11 + nI 1) at hv; omega
              exact ⟨upd_q (fun z => (hL11 v (by omega)).1), upd_q (fun z => (hL11 v (by omega)).2)⟩
            · -- 48 not: D43r 0 9 = nI 5
              refine And.intro ⟨rfl, rfl, Nat.le_refl _, Nat.le_refl _⟩ ?_
              obtain ⟨er, ee⟩ := RX_5 hX43 cz48
              rw [ee] at hX43
              subst eX43
              subst eX39
              subst eX5
              refine hQ _ _ _ _ (FY_t (FY_t hy5 hy39) hy43) (lnPt_l (Eq.trans ?_ ee) hX43)
              simp only [rb_a, rb_i, rb_d, spellL]
    · -- 9 not: ¬ bi (wqX B n X5r (lN 37011)) = 0
      refine And.intro (fun cz34 => ?_) (fun cz34 => False.elim (absurd cz34 (by decide)))
      refine And.intro ⟨by omega, Nat.le_of_ble_eq_true rfl, Nat.le_refl _, Nat.le_refl _⟩ (And.intro (Wdo_142 hW) ?_)
      refine X211 hW hN hdq hX5 (fun i e => by rw [wq_2 (bi_ne0.mp cz9) e]; decide) (by omega) (fun D39r K39r hX39 hy39 => ?_)
      · -- a way behind the call
        have hpk39 := pk_y (cs := [lN 37011, lN 21015731, lN 21279923, lN 645974195]) (k := nI 0) (bi_ne0.mp cz9) (by decide) (by decide)
        rw [hpk39.1] at hX39
        have hv39 := hpk39.2
        generalize eX39 : rb X5r (fun i => rb (pPick [lN 37011, lN 21015731, lN 21279923, lN 645974195] B n i) fun a => .inr a.2) = X39r at hX39
        refine And.intro ⟨by omega, Nat.le_of_ble_eq_true rfl, Nat.le_refl _, Nat.le_refl _⟩ (And.intro (Wdo_142 hW) ?_)
        refine X217 hW hN hdq hX39 (by omega) (fun D43r K43r v43r hX43 hy43 hv43 => ?_)
        generalize eX43 : rb X39r (fun i => rb (pWhole (nI 1) (nI 9) B n i) fun a => .inr a.2) = X43r at hX43
        · -- a way behind the call
          refine And.intro (Wdo_142 hW) ?_
          rw [pp_10 (x := 142) (by decide)]
          refine And.intro (fun cz48 => ?_) (fun cz48 => ?_)
          · -- 48 taken: ¬ D43r 0 9 = nI 5
            obtain ⟨jr, ej⟩ := RX_n hX43 cz48; obtain ⟨p43r, pe43, ph43⟩ := rb_r (eX43.trans ej); obtain ⟨⟨a43r, q43r⟩, pf43, pg43⟩ := rb_r ph43; have vv43 := hv43 _ _ _ pe43 pf43; have pg43x : q43r = _ := Sum.inr.inj pg43; obtain ⟨p39r, pe39, ph39⟩ := rb_r (eX39.trans pe43); obtain ⟨⟨a39r, q39r⟩, pf39, pg39⟩ := rb_r ph39; have vv39 := hv39 _ _ _ pe39 pf39; have pg39x : q39r = _ := Sum.inr.inj pg39; have eb := eX5.trans pe39; obtain ⟨hb1, hb2, hb3⟩ := bgF_r eb
            have hlt : nv (Λ 1 11) < 6 := by rcases Nat.lt_or_ge (nv (Λ 1 11)) 6 with z | z; exact z; exact absurd (congrArg nI (show nv (Λ 1 11) = 6 by have := hc11q.2; change _ ≤ 6 at this; omega)) hb1
            refine And.intro (Wdo_142 hW) (Exists.intro _ (And.intro hq4 ?_))
            refine And.intro (NWo_0 hN) (Exists.intro _ (And.intro (NWr_0_36 hN) ?_))
            refine And.intro (Wdo_142 hW) (Exists.intro _ (And.intro hq4 ?_))
            refine And.intro (NWo_0 hN) ?_
            rw [pp_20 (y := q) (by omega) (by decide)]
            rw [(show E 0 13 = nI (nv (Λ 1 11)) from hL0.2.2.2.2.2.2.2.2.2.2.2.2.2.1.trans hc11q.1)]
            refine And.intro (NWi_20 hN (vi rfl (by omega))) ?_
            rw [nI_clamp (show (nv (Λ 1 11)) < 2 ^ 31 by omega)]
            rw [pp_u2 (y := q) (f := 20) (by omega) (by decide)]
            refine And.intro (Wdo_142 hW) (Exists.intro _ (And.intro hq4 ?_))
            refine And.intro (NWo_0 hN) (Exists.intro _ (And.intro (NWr_0_37 hN) ?_))
            refine And.intro (Wdo_142 hW) (Exists.intro _ (And.intro hq4 ?_))
            refine And.intro (NWo_0 hN) ?_
            rw [pp_20 (y := q) (by omega) (by decide)]
            rw [ud_ne (D := E) (f := 20) (g := 0) (by decide)]
            rw [(show E 0 13 = nI (nv (Λ 1 11)) from hL0.2.2.2.2.2.2.2.2.2.2.2.2.2.1.trans hc11q.1)]
            refine And.intro (NWi_21 hN (vi rfl (by omega))) ?_
            rw [nI_clamp (show (nv (Λ 1 11)) < 2 ^ 31 by omega)]
            rw [pp_u2 (y := q) (f := 21) (by omega) (by decide)]
            refine And.intro (Wdo_142 hW) (Exists.intro _ (And.intro hq4 ?_))
            refine And.intro rfl ?_
            refine And.intro (NWo_0 hN) ?_
            rw [pp_20 (y := q) (by omega) (by decide)]
            rw [ud_ne (D := (ud E 20 ((nv (Λ 1 11))) (nI 0))) (f := 21) (g := 0) (by decide)]
            rw [ud_ne (D := E) (f := 20) (g := 0) (by decide)]
            rw [(show E 0 13 = nI (nv (Λ 1 11)) from hL0.2.2.2.2.2.2.2.2.2.2.2.2.2.1.trans hc11q.1)]
            refine And.intro (NWo_0 hN) ?_
            rw [pp_u20 (y := q) (by omega) (by decide)]
            refine And.intro ⟨rfl, rfl, Nat.le_refl _, Nat.le_refl _⟩ ?_
            have hS : rb (bgF (nI (nv (Λ 1 11))) (nI 6) (E 0 0) B n i) (fun i => spellL T Λ B n i) = .inr (T, ud (ud Λ 12 (nv (Λ 1 11)) a39r) 13 (nv (Λ 1 11)) a43r, jr) := by
              simp only [pf43, pg43x, pf39, pg39x, eb, rb_a, rb_i, spellL]
            rw [ej] at hX43
            refine hQ _ _ _ _ (FY_t (FY_t hy5 hy39) hy43) ?_
            rw [hS]
            rw [vv43]
            subst vv39
            rw [← hc11q.1]
            have hb5 := nv_b1 hc11q.1 (by omega)
            refine ⟨hX43, hNR, ⟨⟨hL0.1, hL0.2.1, hL0.2.2.1, hL0.2.2.2.1, hL0.2.2.2.2.1, hL0.2.2.2.2.2.1, hL0.2.2.2.2.2.2.1, hL0.2.2.2.2.2.2.2.1, hL0.2.2.2.2.2.2.2.2.1, hL0.2.2.2.2.2.2.2.2.2.1, hL0.2.2.2.2.2.2.2.2.2.2.1, hL0.2.2.2.2.2.2.2.2.2.2.2.1, hL0.2.2.2.2.2.2.2.2.2.2.2.2.1, (by first | rfl | exact congrArg (fun z => z + nI 1) hL0.2.2.2.2.2.2.2.2.2.2.2.2.2.1), hL0.2.2.2.2.2.2.2.2.2.2.2.2.2.2⟩, hL1, hL2, hL3, hL4, hL5, hL6, hL7, hL8, hL9, hL10, fun v hv => ?_, hL12⟩⟩
            have hv2 : v < nv (Λ 1 11) + 1 := by change v < nv (Λ 1 11 + nI 1) at hv; omega
            exact ⟨upd_q (fun z => (hL11 v (by omega)).1), upd_q (fun z => (hL11 v (by omega)).2)⟩
          · -- 48 not: D43r 0 9 = nI 5
            refine And.intro ⟨rfl, rfl, Nat.le_refl _, Nat.le_refl _⟩ ?_
            obtain ⟨er, ee⟩ := RX_5 hX43 cz48
            rw [ee] at hX43
            subst eX43
            subst eX39
            subst eX5
            refine hQ _ _ _ _ (FY_t (FY_t hy5 hy39) hy43) (lnPt_l (Eq.trans ?_ ee) hX43)
            simp only [rb_a, rb_i, rb_d, spellL]
