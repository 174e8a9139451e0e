theorem any_y {T : NT} {B : Nat → Int32} {n : Nat} {X : Rs Nat} (hw : wqX B n X (lN 1497)) : rb X (fun i => .inr (nxF B n i)) = rb X (fun i => rb (pAnyT T B n i) fun a => .inr a.2) ∧ ∀ i9 a j, X = .inr i9 → pAnyT T B n i9 = .inr (a, j) → -nI 2 = a := by
  obtain ⟨i, rfl, kz2, ew⟩ := hw
  have e : pAnyT T B n i = .inr (-nI 2, nxF B n i) := if_pos ⟨kz2, ew⟩
  refine ⟨?_, fun i9 a j ez1 ez2 => ?_⟩
  · show Sum.inr _ = rb (pAnyT T B n i) _
    rw [e]
    rfl
  · rw [← Sum.inr.inj ez1, e] at ez2
    exact congrArg Prod.fst (Sum.inr.inj ez2)
theorem any_n {T : NT} {B : Nat → Int32} {n : Nat} {X : Rs Nat} {v : Int32} (hw : ¬ wqX B n X (lN 1497)) (hv : ∀ i9 a j, X = .inr i9 → tUse T 2 B n i9 = .inr (a, j) → v = a) : rb (rb X (fun i => rb (tUse T 2 B n i) fun _ => (.inr i : Rs Nat))) (fun i => .inr (nxF B n i)) = rb X (fun i => rb (pAnyT T B n i) fun a => .inr a.2) ∧ ∀ i9 a j, X = .inr i9 → pAnyT T B n i9 = .inr (a, j) → v = a ∧ tUse T 2 B n i9 = .inr (a, j) := by
  cases X with
  | inl f => exact ⟨rfl, fun i9 a j e => by cases e⟩
  | inr i =>
    have e : pAnyT T B n i = tUse T 2 B n i := if_neg (fun z => hw ⟨i, rfl, z.1, z.2⟩)
    refine ⟨?_, fun i9 a j ez1 ez2 => ?_⟩
    · show rb (rb (tUse T 2 B n i) _) _ = rb (pAnyT T B n i) _
      rw [e]
      rcases h4 : tUse T 2 B n i with w8 | ⟨a, j⟩
      · rfl
      · show Sum.inr (nxF B n i) = Sum.inr j
        rw [(tUse_2 h4).2]
    · have ez3 : i = i9 := Sum.inr.inj ez1
      subst ez3
      rw [e] at ez2
      exact ⟨hv _ _ _ rfl ez2, ez2⟩
theorem any_2 {T : NT} {B : Nat → Int32} {n i : Nat} {X : Rs Nat} (h : rb X (fun i => rb (tUse T 2 B n i) fun _ => (.inr i : Rs Nat)) = .inr i) : kiF B n i = 2 := by
  obtain ⟨p, -, h1⟩ := rb_r h
  obtain ⟨⟨a, j⟩, h2, h3⟩ := rb_r h1
  have w9 : p = i := Sum.inr.inj h3
  rw [← w9]
  exact (tUse_2 h2).1
theorem so_h {s4 s : Int32} (hv : (s = -nI 2 → s4 = -nI 1) ∧ (¬ s = -nI 2 → s4 = s)) (hg : s = -nI 2 ∧ ¬ nI 1 = 0 ∨ iR s 5) (u : Nat) : (s4 = -nI 1 ∨ nI u = s4) ↔ (s = -nI 2 ∨ s = nI u) := by
  by_cases e : s = -nI 2
  · exact ⟨fun _ => Or.inl e, fun _ => Or.inl (hv.1 e)⟩
  · obtain ⟨w, hw, ew⟩ := hg.resolve_left (fun z => e z.1)
    have ez4 := hv.2 e
    refine ⟨fun z => Or.inr (z.elim (fun y => ?_) (fun y => (y.trans ez4).symm)), fun z => Or.inr (z.elim (fun y => absurd y e) (fun y => (ez4.trans y).symm))⟩
    rw [ez4, ew] at y
    exact absurd y (nI_neg1 (by omega))
theorem th_h {y2 y3 y : Int32} {c : Nat} (h2 : y2 = 0) (hv : y3 = y) (hy : y = nI (nv y)) (hc : nv y < c) (hc6 : c ≤ 6) (t : Nat) : (¬ y2 = 0 ∨ nI t = y3) ↔ (y = -nI 2 ∨ y = nI t) := by
  refine ⟨fun z => Or.inr (z.elim (fun q => absurd h2 q) (fun q => (q.trans hv).symm)), fun z => Or.inr (z.elim (fun q => ?_) (fun q => (hv.trans q).symm))⟩
  have hp : ¬ nI (nv y) < 0 := nI_pos (by omega)
  rw [← hy, q] at hp
  exact absurd (by decide) hp
theorem hi_q {g t : Nat} {y s h : Int32} {E Λ : Nat → Nat → Int32} (hg : g < 6) (ht : t < 6) : ∀ {u : Nat}, u ≤ 5 → (∀ x, x < 180 → E 7 x = Λ 7 x) → ∀ x, x < 180 → hiQ g y s h t E u 7 x = hiQ g y s h t Λ u 7 x
  | 0, _, hq => hq
  | u + 1, hu, hq => fun x hx => by
    have ih := hi_q (y := y) (s := s) (h := h) hg ht (u := u) (by omega) hq
    rw [hiQ_s, hiQ_s]
    unfold hiS
    by_cases e : hoP y s t u
    · rw [if_pos e, if_pos e, ud_eq, ud_eq, ih ((g * 6 + t) * 5 + u) (by omega)]
      exact upd_q (fun _ => ih x hx)
    · rw [if_neg e, if_neg e]
      exact ih x hx
theorem ht_q {g : Nat} {y s h : Int32} {E Λ : Nat → Nat → Int32} (hg : g < 6) : ∀ {t : Nat}, t ≤ 6 → (∀ x, x < 180 → E 7 x = Λ 7 x) → ∀ x, x < 180 → htQ g y s h E t 7 x = htQ g y s h Λ t 7 x
  | 0, _, hq => hq
  | t + 1, ht, hq => by
    rw [htQ_s, htQ_s, htS_e, htS_e]
    exact hi_q hg (by omega) (by decide) (ht_q hg (t := t) (by omega) hq)
theorem hold_NR {T : NT} {E F : Nat → Nat → Int32} {L : Nat → Nat → Int64} {a : Int32} (h : NR T E L) (hr : ∀ f, f ≠ 7 → F f = E f) : NR T (ud F 0 7 a) L := by
  have ez0 : ud F 0 7 a 0 15 = E 0 15 := by rw [← hr 0 (by decide)]; rfl
  have ez1 : ud F 0 7 a 27 = E 27 := by rw [← hr 27 (by decide)]; rfl
  have ez2 : ud F 0 7 a 28 = E 28 := by rw [← hr 28 (by decide)]; rfl
  unfold NR
  rw [ez0, ez1, ez2]
  exact h
theorem hold_LQ {Λ E F P : Nat → Nat → Int32} (h : LQ Λ E) (hr : ∀ f, f ≠ 7 → F f = E f) (hl : ∀ f, f ≠ 7 → P f = Λ f) (hq : ∀ v, v < 180 → F 7 v = P 7 v) : LQ (bump P 5) (ud F 0 7 (F 0 7 + nI 1)) := by
  obtain ⟨hL0, hL1, hL2, hL3, hL4, hL5, hL6, hL7, hL8, hL9, hL10, hL11, hL12⟩ := h
  have hg : ∀ f, f ≠ 0 → f ≠ 7 → ud F 0 7 (F 0 7 + nI 1) f = E f := fun f h0 h1 => by rw [ud_ne h0, hr f h1]
  have hp : ∀ f, f ≠ 1 → f ≠ 7 → bump P 5 f = Λ f := fun f h1 h2 => (ud_ne h1).trans (hl f h2)
  have hp1 : ∀ s, s ≠ 5 → bump P 5 1 s = Λ 1 s := fun s hs => by
    show upd (P 1) 5 (P 1 5 + nI 1) s = _
    rw [upd_o hs, hl 1 (by decide)]
  have hp15 : bump P 5 1 5 = Λ 1 5 + nI 1 := by
    show upd (P 1) 5 (P 1 5 + nI 1) 5 = _
    rw [upd_e, hl 1 (by decide)]
  have hg0 : ∀ s, s ≠ 7 → ud F 0 7 (F 0 7 + nI 1) 0 s = E 0 s := fun s h4 => by
    rw [ud_eq, upd_o h4, hr 0 (by decide)]
  refine ⟨⟨(hg0 0 (by decide)).trans (hL0.1.trans (congrFun (hp 0 (by decide) (by decide)) 0).symm), (hg0 1 (by decide)).trans (hL0.2.1.trans (congrFun (hp 0 (by decide) (by decide)) 1).symm), (hg0 2 (by decide)).trans (hL0.2.2.1.trans (hp1 1 (by decide)).symm), (hg0 3 (by decide)).trans (hL0.2.2.2.1.trans (congrFun (hp 0 (by decide) (by decide)) 2).symm), ?_, (hg0 5 (by decide)).trans (hL0.2.2.2.2.2.1.trans (hp1 2 (by decide)).symm), (hg0 6 (by decide)).trans (hL0.2.2.2.2.2.2.1.trans (hp1 4 (by decide)).symm), ?_, (hg0 8 (by decide)).trans (hL0.2.2.2.2.2.2.2.2.1.trans (hp1 6 (by decide)).symm), (hg0 9 (by decide)).trans (hL0.2.2.2.2.2.2.2.2.2.1.trans (hp1 7 (by decide)).symm), (hg0 10 (by decide)).trans (hL0.2.2.2.2.2.2.2.2.2.2.1.trans (hp1 8 (by decide)).symm), (hg0 11 (by decide)).trans (hL0.2.2.2.2.2.2.2.2.2.2.2.1.trans (hp1 9 (by decide)).symm), (hg0 12 (by decide)).trans (hL0.2.2.2.2.2.2.2.2.2.2.2.2.1.trans (hp1 10 (by decide)).symm), (hg0 13 (by decide)).trans (hL0.2.2.2.2.2.2.2.2.2.2.2.2.2.1.trans (hp1 11 (by decide)).symm), (hg0 14 (by decide)).trans (hL0.2.2.2.2.2.2.2.2.2.2.2.2.2.2.trans (hp1 12 (by decide)).symm)⟩, ?_, ?_, ?_, ?_, ?_, ?_, ?_, ?_, ?_, ?_, ?_, ?_⟩
  · rw [hg0 4 (by decide), hp1 1 (by decide), hp 0 (by decide) (by decide), hp 2 (by decide) (by decide)]
    exact hL0.2.2.2.2.1
  · show F 0 7 + nI 1 = _
    rw [hp15, hr 0 (by decide)]
    exact congrArg (fun z => z + nI 1) hL0.2.2.2.2.2.2.2.1
  · unfold Q1
    rw [hp1 3 (by decide), hg0 16 (by decide), hp 0 (by decide) (by decide)]
    exact hL1
  · unfold Q2
    rw [hg 1 (by decide) (by decide), hp 2 (by decide) (by decide)]
    exact hL2
  · unfold Q3
    rw [hp1 4 (by decide), hg 2 (by decide) (by decide), hg 4 (by decide) (by decide), hg 5 (by decide) (by decide), hg 6 (by decide) (by decide), hp 3 (by decide) (by decide), hp 4 (by decide) (by decide), hp 5 (by decide) (by decide), hp 6 (by decide) (by decide)]
    exact hL3
  · unfold Q4
    rw [hg 3 (by decide) (by decide), hp 16 (by decide) (by decide)]
    exact hL4
  · intro v hv
    exact (hq v hv).trans (congrFun (show bump P 5 7 = P 7 from ud_ne (by decide)) v).symm
  · unfold Q6
    rw [hg 8 (by decide) (by decide), hp 17 (by decide) (by decide)]
    exact hL6
  · unfold Q7
    rw [hg 9 (by decide) (by decide), hp 8 (by decide) (by decide)]
    exact hL7
  · unfold Q8
    rw [hp1 8 (by decide), hg 10 (by decide) (by decide), hg 11 (by decide) (by decide), hg 12 (by decide) (by decide), hg 13 (by decide) (by decide), hg 14 (by decide) (by decide), hg 15 (by decide) (by decide), hg 16 (by decide) (by decide), hp 9 (by decide) (by decide)]
    exact hL8
  · unfold Q9
    rw [hg 17 (by decide) (by decide), hp 10 (by decide) (by decide)]
    exact hL9
  · unfold Q10
    rw [hp1 10 (by decide), hg 18 (by decide) (by decide), hg 19 (by decide) (by decide), hp 11 (by decide) (by decide), hp 18 (by decide) (by decide)]
    exact hL10
  · unfold Q11
    rw [hp1 11 (by decide), hg 20 (by decide) (by decide), hg 21 (by decide) (by decide), hp 12 (by decide) (by decide), hp 13 (by decide) (by decide)]
    exact hL11
  · unfold Q12
    rw [hp1 12 (by decide), hg 22 (by decide) (by decide), hg 23 (by decide) (by decide), hg 24 (by decide) (by decide), hg 25 (by decide) (by decide), hp 14 (by decide) (by decide)]
    exact hL12
theorem lhold_a {sc : Nat × (Nat → Int32)} {d : Nat} {m : Mm} {Q : Option Value → Mm → Prop} {q : Nat} {L : Nat → Nat → Int64} (hW : Wd m.2.2) (hN : NW m.2.2 q) (hdq : q + 29 ≤ 142 ∨ 142 + 3 ≤ q) {D : Nat → Nat → Int32} {K : Nat → Nat → Int64} {g : Nat} {y2 y3 s4 y s h : Int32} (hq4 : va_rf (mR m 142 4) = .ref q) (hg : g < 6) (hty : ∀ t, (¬ y2 = 0 ∨ nI t = y3) ↔ (y = -nI 2 ∨ y = nI t)) (hsu : ∀ u, (s4 = -nI 1 ∨ nI u = s4) ↔ (s = -nI 2 ∨ s = nI u)) {t : Nat} {E : Nat → Nat → Int32} (ht : t < 6) (hk : Jj sc d 0 0 (mth 235) (pg P235 56).1 [some (.ref 142), some (.int (nI g)), some (.int y2), some (.int y3), some (.int s4), none, none, some (.int h), some (.int (nI (t + 1))), none] [] (pp m 142 3 D K q 29 (hiQ g y s h t E 5) L) 0 0 Q)  : ∀ (j u : Nat), u ≤ 5 → 5 + 1 ≤ u + j → Jj sc d 0 0 (mth 235) (pg P235 61).1 [some (.ref 142), some (.int (nI g)), some (.int y2), some (.int y3), some (.int s4), none, none, some (.int h), some (.int (nI t)), some (.int (nI u))] [] (pp m 142 3 D K q 29 (hiQ g y s h t E u) L) 0 0 Q := by
  intro j
  induction j with
  | zero => intro u h1 h2; omega
  | succ j ih =>
    intro u h1 h2
    refine J_w z235 (i := 61) (by decide) 228 ?_
    refine And.intro (fun cz63 => ?_) (fun cz63 => ?_)
    · -- 63 taken: nI 5 ≤ nI u
      have kz63 : 5 ≤ u := kle (a := 5) (b := u) rfl rfl (by omega) (by omega) cz63
      show Jj sc d 0 0 (mth 235) (pg P235 56).1 [some (.ref 142), some (.int (nI g)), some (.int y2), some (.int y3), some (.int s4), none, none, some (.int h), some (.int (nI t + nI 1)), some (.int (nI u))] [] (pp m 142 3 D K q 29 (hiQ g y s h t E u) L) 0 0 Q
      rw [show nI t + nI 1 = nI (t + 1) from by simp only [nI_add, pk_mul]]
      refine J_wk (L' := [some (.ref 142), some (.int (nI g)), some (.int y2), some (.int y3), some (.int s4), none, none, some (.int h), some (.int (nI (t + 1))), none]) ⟨rfl, rfl, rfl, rfl, rfl, rfl, rfl, trivial⟩ ?_
      rw [show u = 5 by omega]
      exact hk
    · -- 63 not: ¬ nI 5 ≤ nI u
      have kz63 : u < 5 := knle (a := 5) (b := u) rfl rfl (by omega) (by omega) cz63
      refine And.intro (fun cz65 => ?_) (fun cz65 => ?_)
      · -- 65 taken: ¬ y2 = 0
        refine And.intro (fun cz71 => ?_) (fun cz71 => ?_)
        · -- 71 taken: s4 = -nI 1
          refine And.intro (Wdo_142 hW) (Exists.intro _ (And.intro hq4 ?_))
          refine And.intro (NWo_0 hN) (Exists.intro _ (And.intro (NWr_0_23 hN) ?_))
          refine And.intro ⟨rfl, rfl⟩ ?_
          refine And.intro (NWi_7 hN (vi (by simp only [nI_add, pk_mul]; rw [Nat.mul_comm 6 g]) (by omega))) ?_
          rw [vc (by simp only [nI_add, pk_mul]; rw [Nat.mul_comm 6 g]) (by omega)]
          rw [pp_2 (y := q) (f := 7) (by omega) (by decide)]
          refine And.intro (NWi_7 hN (vi (by simp only [nI_add, pk_mul]; rw [Nat.mul_comm 6 g]) (by omega))) ?_
          rw [vc (by simp only [nI_add, pk_mul]; rw [Nat.mul_comm 6 g]) (by omega)]
          rw [pp_u2 (y := q) (f := 7) (by omega) (by decide)]
          show Jj sc d 0 0 (mth 235) (pg P235 61).1 [some (.ref 142), some (.int (nI g)), some (.int y2), some (.int y3), some (.int s4), none, none, some (.int h), some (.int (nI t)), some (.int (nI u + nI 1))] [] (pp m 142 3 D K q 29 (ud (hiQ g y s h t E u) 7 (((g * 6 + t) * 5 + u)) (((hiQ g y s h t E u) 7 (((g * 6 + t) * 5 + u))) ||| h)) L) 0 0 Q
          rw [show nI u + nI 1 = nI (u + 1) from by simp only [nI_add, pk_mul]]
          have z := ih (u + 1) (by omega) (by omega)
          rw [hiQ_s] at z
          unfold hiS at z
          rw [if_pos ⟨(hty t).mp (Or.inl cz65), (hsu u).mp (Or.inl cz71)⟩] at z
          exact z
        · -- 71 not: ¬ s4 = -nI 1
          refine And.intro (fun cz74 => ?_) (fun cz74 => ?_)
          · -- 74 taken: ¬ nI u = s4
            show Jj sc d 0 0 (mth 235) (pg P235 61).1 [some (.ref 142), some (.int (nI g)), some (.int y2), some (.int y3), some (.int s4), none, none, some (.int h), some (.int (nI t)), some (.int (nI u + nI 1))] [] (pp m 142 3 D K q 29 (hiQ g y s h t E u) L) 0 0 Q
            rw [show nI u + nI 1 = nI (u + 1) from by simp only [nI_add, pk_mul]]
            have z := ih (u + 1) (by omega) (by omega)
            rw [hiQ_s] at z
            unfold hiS at z
            rw [if_neg (fun z => ((hsu u).mpr z.2).elim cz71 cz74)] at z
            exact z
          · -- 74 not: nI u = s4
            refine And.intro (Wdo_142 hW) (Exists.intro _ (And.intro hq4 ?_))
            refine And.intro (NWo_0 hN) (Exists.intro _ (And.intro (NWr_0_23 hN) ?_))
            refine And.intro ⟨rfl, rfl⟩ ?_
            refine And.intro (NWi_7 hN (vi (by simp only [nI_add, pk_mul]; rw [Nat.mul_comm 6 g]) (by omega))) ?_
            rw [vc (by simp only [nI_add, pk_mul]; rw [Nat.mul_comm 6 g]) (by omega)]
            rw [pp_2 (y := q) (f := 7) (by omega) (by decide)]
            refine And.intro (NWi_7 hN (vi (by simp only [nI_add, pk_mul]; rw [Nat.mul_comm 6 g]) (by omega))) ?_
            rw [vc (by simp only [nI_add, pk_mul]; rw [Nat.mul_comm 6 g]) (by omega)]
            rw [pp_u2 (y := q) (f := 7) (by omega) (by decide)]
            show Jj sc d 0 0 (mth 235) (pg P235 61).1 [some (.ref 142), some (.int (nI g)), some (.int y2), some (.int y3), some (.int s4), none, none, some (.int h), some (.int (nI t)), some (.int (nI u + nI 1))] [] (pp m 142 3 D K q 29 (ud (hiQ g y s h t E u) 7 (((g * 6 + t) * 5 + u)) (((hiQ g y s h t E u) 7 (((g * 6 + t) * 5 + u))) ||| h)) L) 0 0 Q
            rw [show nI u + nI 1 = nI (u + 1) from by simp only [nI_add, pk_mul]]
            have z := ih (u + 1) (by omega) (by omega)
            rw [hiQ_s] at z
            unfold hiS at z
            rw [if_pos ⟨(hty t).mp (Or.inl cz65), (hsu u).mp (Or.inr cz74)⟩] at z
            exact z
      · -- 65 not: y2 = 0
        refine And.intro (fun cz68 => ?_) (fun cz68 => ?_)
        · -- 68 taken: ¬ nI t = y3
          show Jj sc d 0 0 (mth 235) (pg P235 61).1 [some (.ref 142), some (.int (nI g)), some (.int y2), some (.int y3), some (.int s4), none, none, some (.int h), some (.int (nI t)), some (.int (nI u + nI 1))] [] (pp m 142 3 D K q 29 (hiQ g y s h t E u) L) 0 0 Q
          rw [show nI u + nI 1 = nI (u + 1) from by simp only [nI_add, pk_mul]]
          have z := ih (u + 1) (by omega) (by omega)
          rw [hiQ_s] at z
          unfold hiS at z
          rw [if_neg (fun z => ((hty t).mpr z.1).elim (fun q9 => q9 cz65) cz68)] at z
          exact z
        · -- 68 not: nI t = y3
          refine And.intro (fun cz71 => ?_) (fun cz71 => ?_)
          · -- 71 taken: s4 = -nI 1
            refine And.intro (Wdo_142 hW) (Exists.intro _ (And.intro hq4 ?_))
            refine And.intro (NWo_0 hN) (Exists.intro _ (And.intro (NWr_0_23 hN) ?_))
            refine And.intro ⟨rfl, rfl⟩ ?_
            refine And.intro (NWi_7 hN (vi (by simp only [nI_add, pk_mul]; rw [Nat.mul_comm 6 g]) (by omega))) ?_
            rw [vc (by simp only [nI_add, pk_mul]; rw [Nat.mul_comm 6 g]) (by omega)]
            rw [pp_2 (y := q) (f := 7) (by omega) (by decide)]
            refine And.intro (NWi_7 hN (vi (by simp only [nI_add, pk_mul]; rw [Nat.mul_comm 6 g]) (by omega))) ?_
            rw [vc (by simp only [nI_add, pk_mul]; rw [Nat.mul_comm 6 g]) (by omega)]
            rw [pp_u2 (y := q) (f := 7) (by omega) (by decide)]
            show Jj sc d 0 0 (mth 235) (pg P235 61).1 [some (.ref 142), some (.int (nI g)), some (.int y2), some (.int y3), some (.int s4), none, none, some (.int h), some (.int (nI t)), some (.int (nI u + nI 1))] [] (pp m 142 3 D K q 29 (ud (hiQ g y s h t E u) 7 (((g * 6 + t) * 5 + u)) (((hiQ g y s h t E u) 7 (((g * 6 + t) * 5 + u))) ||| h)) L) 0 0 Q
            rw [show nI u + nI 1 = nI (u + 1) from by simp only [nI_add, pk_mul]]
            have z := ih (u + 1) (by omega) (by omega)
            rw [hiQ_s] at z
            unfold hiS at z
            rw [if_pos ⟨(hty t).mp (Or.inr cz68), (hsu u).mp (Or.inl cz71)⟩] at z
            exact z
          · -- 71 not: ¬ s4 = -nI 1
            refine And.intro (fun cz74 => ?_) (fun cz74 => ?_)
            · -- 74 taken: ¬ nI u = s4
              show Jj sc d 0 0 (mth 235) (pg P235 61).1 [some (.ref 142), some (.int (nI g)), some (.int y2), some (.int y3), some (.int s4), none, none, some (.int h), some (.int (nI t)), some (.int (nI u + nI 1))] [] (pp m 142 3 D K q 29 (hiQ g y s h t E u) L) 0 0 Q
              rw [show nI u + nI 1 = nI (u + 1) from by simp only [nI_add, pk_mul]]
              have z := ih (u + 1) (by omega) (by omega)
              rw [hiQ_s] at z
              unfold hiS at z
              rw [if_neg (fun z => ((hsu u).mpr z.2).elim cz71 cz74)] at z
              exact z
            · -- 74 not: nI u = s4
              refine And.intro (Wdo_142 hW) (Exists.intro _ (And.intro hq4 ?_))
              refine And.intro (NWo_0 hN) (Exists.intro _ (And.intro (NWr_0_23 hN) ?_))
              refine And.intro ⟨rfl, rfl⟩ ?_
              refine And.intro (NWi_7 hN (vi (by simp only [nI_add, pk_mul]; rw [Nat.mul_comm 6 g]) (by omega))) ?_
              rw [vc (by simp only [nI_add, pk_mul]; rw [Nat.mul_comm 6 g]) (by omega)]
              rw [pp_2 (y := q) (f := 7) (by omega) (by decide)]
              refine And.intro (NWi_7 hN (vi (by simp only [nI_add, pk_mul]; rw [Nat.mul_comm 6 g]) (by omega))) ?_
              rw [vc (by simp only [nI_add, pk_mul]; rw [Nat.mul_comm 6 g]) (by omega)]
              rw [pp_u2 (y := q) (f := 7) (by omega) (by decide)]
              show Jj sc d 0 0 (mth 235) (pg P235 61).1 [some (.ref 142), some (.int (nI g)), some (.int y2), some (.int y3), some (.int s4), none, none, some (.int h), some (.int (nI t)), some (.int (nI u + nI 1))] [] (pp m 142 3 D K q 29 (ud (hiQ g y s h t E u) 7 (((g * 6 + t) * 5 + u)) (((hiQ g y s h t E u) 7 (((g * 6 + t) * 5 + u))) ||| h)) L) 0 0 Q
              rw [show nI u + nI 1 = nI (u + 1) from by simp only [nI_add, pk_mul]]
              have z := ih (u + 1) (by omega) (by omega)
              rw [hiQ_s] at z
              unfold hiS at z
              rw [if_pos ⟨(hty t).mp (Or.inr cz68), (hsu u).mp (Or.inr cz74)⟩] at z
              exact z
theorem lhold_b {sc : Nat × (Nat → Int32)} {d : Nat} {m : Mm} {Q : Option Value → Mm → Prop} {q : Nat} {L : Nat → Nat → Int64} (hW : Wd m.2.2) (hN : NW m.2.2 q) (hdq : q + 29 ≤ 142 ∨ 142 + 3 ≤ q) {D : Nat → Nat → Int32} {K : Nat → Nat → Int64} {g : Nat} {y2 y3 s4 y s h : Int32} (hq4 : va_rf (mR m 142 4) = .ref q) (hg : g < 6) (hty : ∀ t, (¬ y2 = 0 ∨ nI t = y3) ↔ (y = -nI 2 ∨ y = nI t)) (hsu : ∀ u, (s4 = -nI 1 ∨ nI u = s4) ↔ (s = -nI 2 ∨ s = nI u)) {E : Nat → Nat → Int32} (hQ : Q none (pp m 142 3 D K q 29 (ud (htQ g y s h E 6) 0 7 (htQ g y s h E 6 0 7 + nI 1)) L))  : ∀ (j t : Nat), t ≤ 6 → 6 + 1 ≤ t + j → Jj sc d 0 0 (mth 235) (pg P235 56).1 [some (.ref 142), some (.int (nI g)), some (.int y2), some (.int y3), some (.int s4), none, none, some (.int h), some (.int (nI t)), none] [] (pp m 142 3 D K q 29 (htQ g y s h E t) L) 0 0 Q := by
  intro j
  induction j with
  | zero => intro t h1 h2; omega
  | succ j ih =>
    intro t h1 h2
    refine J_w z235 (i := 56) (by decide) 228 ?_
    refine And.intro (fun cz58 => ?_) (fun cz58 => ?_)
    · -- 58 taken: nI 6 ≤ nI t
      have kz58 : 6 ≤ t := kle (a := 6) (b := t) rfl rfl (by omega) (by omega) cz58
      refine And.intro (Wdo_142 hW) (Exists.intro _ (And.intro hq4 ?_))
      refine And.intro rfl ?_
      refine And.intro (NWo_0 hN) ?_
      rw [pp_20 (y := q) (by omega) (by decide)]
      refine And.intro (NWo_0 hN) ?_
      rw [pp_u20 (y := q) (by omega) (by decide)]
      refine And.intro ⟨rfl, rfl, Nat.le_refl _, Nat.le_refl _⟩ ?_
      rw [show t = 6 by omega]
      exact hQ
    · -- 58 not: ¬ nI 6 ≤ nI t
      have kz58 : t < 6 := knle (a := 6) (b := t) rfl rfl (by omega) (by omega) cz58
      show Jj sc d 0 0 (mth 235) (pg P235 61).1 [some (.ref 142), some (.int (nI g)), some (.int y2), some (.int y3), some (.int s4), none, none, some (.int h), some (.int (nI t)), some (.int (nI 0))] [] (pp m 142 3 D K q 29 (htQ g y s h E t) L) 0 0 Q
      have z := ih (t + 1) (by omega) (by omega)
      rw [htQ_s, htS_e] at z
      have z2 := lhold_a hW hN hdq hq4 hg hty hsu (by omega) z 6 0 (by decide) (by decide)
      rw [hiQ_0] at z2
      exact z2
theorem L235 {d : Nat} {m : Mm} {Q : Option Value → Mm → Prop} {q : Nat} {E : Nat → Nat → Int32} {L : Nat → Nat → Int64} (hW : Wd m.2.2) (hN : NW m.2.2 q) (hdq : q + 29 ≤ 142 ∨ 142 + 3 ≤ q) {D : Nat → Nat → Int32} {K : Nat → Nat → Int64} {Λ : Nat → Nat → Int32} {T : NT} (hq4 : va_rf (mR m 142 4) = .ref q) (hLQ : LQ Λ E) (hNR : NR T E L) (hI : LRI T Λ) {B : Nat → Int32} {n i : Nat} (hR : RBy B n D) (hT : TR B n i D K) (hi : i ≤ n) (h14 : D 0 14 = nI 0) (kk2 : kiF B n i = 2) (hd : 13 ≤ d) (hQ : ∀ D1 K1 E1 L1, FY D D1 → lnPt B n 5 (rb (bgF (nI (nv (Λ 1 5))) (nI 16) (E 0 0) B n i) (fun i => holdsL T Λ B n i)) D1 K1 E1 L1 → Q none (pp m 142 3 D1 K1 q 29 E1 L1)) : Cc d 0 0 235 [.ref 142] (pp m 142 3 D K q 29 E L) Q := by
  obtain ⟨hL0, hL1, hL2, hL3, hL4, hL5, hL6, hL7, hL8, hL9, hL10, hL11, hL12⟩ := hLQ
  obtain ⟨hC, hWI, hNN, hVI⟩ := hI
  obtain ⟨hn0, hTS2, hTS4, hTS8⟩ := hNN
  have hc2q := hC 2 (by decide)
  have hc4q := hC 4 (by decide)
  have hc8q := hC 8 (by decide)
  have hc10q := hC 10 (by decide)
  have hc5q := hC 5 (by decide)
  refine ent (n := 228) z235 (by decide) rfl (by decide) (Nat.le_of_ble_eq_true rfl) (fun sc => ?_)
  refine And.intro (Wdo_142 hW) (Exists.intro _ (And.intro hq4 ?_))
  refine And.intro (NWo_0 hN) ?_
  rw [pp_20 (y := q) (by omega) (by decide)]
  rw [(show E 0 7 = nI (nv (Λ 1 5)) from hL0.2.2.2.2.2.2.2.1.trans hc5q.1)]
  refine And.intro ⟨by omega, Nat.le_of_ble_eq_true rfl, Nat.le_refl _, Nat.le_refl _⟩ (And.intro (Wdo_142 hW) ?_)
  refine L220 hW hN hdq hq4 hR hT hi h14 kk2 (by omega) (fun D5r K5r hX5 hy5 => ?_)
  generalize eX5 : bgF (nI ((nv (Λ 1 5)))) (nI 16) (E 0 0) B n i = X5r at hX5
  · -- a way behind the call
    show zw sc d 0 0 (mth 235).2.2.2.2.1 P235 (KJ sc d 0 0 (mth 235) P235 Q) Q 223 6 [some (.ref 142), none, none, none, none, none, none, none, none, none] [] (pp m 142 3 D5r K5r q 29 E L) 0 0
    refine And.intro ⟨by omega, Nat.le_of_ble_eq_true rfl, Nat.le_refl _, Nat.le_refl _⟩ (And.intro (Wdo_142 hW) ?_)
    refine X224 (so := 4) hW hN hdq (by decide) hq4 hNR hX5 (by omega) (fun D8r K8r v8r hX8 hy8 hv8 => ?_)
    generalize eX8 : rb X5r (fun i => rb (tUse T 4 B n i) fun a => .inr a.2) = X8r at hX8
    · -- a way behind the call
      show zw sc d 0 0 (mth 235).2.2.2.2.1 P235 (KJ sc d 0 0 (mth 235) P235 Q) Q 220 9 [some (.ref 142), none, none, none, none, none, none, none, none, none] [.int v8r] (pp m 142 3 D8r K8r q 29 E L) 0 0
      refine And.intro ⟨by omega, Nat.le_of_ble_eq_true rfl, Nat.le_refl _, Nat.le_refl _⟩ (And.intro (Wdo_142 hW) ?_)
      refine X213 (s0 := 40) hW hN hdq hX8 (by decide) (by decide) wo_40 (by omega) ?_
      refine And.intro (fun cz15 => ?_) (fun cz15 => ?_)
      · -- 15 taken: bi (wqX B n X8r (lN 1497)) = 0
        refine And.intro ⟨by omega, Nat.le_of_ble_eq_true rfl, Nat.le_refl _, Nat.le_refl _⟩ (And.intro (Wdo_142 hW) ?_)
        refine X223 (so := 2) hW hN hdq (by decide) hq4 hNR hX8 (by omega) (fun D20r K20r v20r hX20 hy20 hv20 => ?_)
        · -- a way behind the call
          show zw sc d 0 0 (mth 235).2.2.2.2.1 P235 (KJ sc d 0 0 (mth 235) P235 Q) Q 210 21 [some (.ref 142), some (.int v8r), some (.int (bi (wqX B n X8r (lN 1497)))), none, none, none, none, none, none, none] [.int v20r] (pp m 142 3 D20r K20r q 29 E L) 0 0
          refine And.intro ⟨by omega, Nat.le_of_ble_eq_true rfl, Nat.le_refl _, Nat.le_refl _⟩ (And.intro (Wdo_142 hW) ?_)
          refine X211 hW hN hdq hX20 (fun i e => by rw [any_2 e]; decide) (by omega) (fun D23r K23r hX23 hy23 => ?_)
          have han := any_n (T := T) (bi_eq0.mp cz15) hv20
          rw [han.1] at hX23
          have hv23 := han.2
          generalize eX23 : rb X8r (fun i => rb (pAnyT T B n i) fun a => .inr a.2) = X23r at hX23
          · -- a way behind the call
            show zw sc d 0 0 (mth 235).2.2.2.2.1 P235 (KJ sc d 0 0 (mth 235) P235 Q) Q 207 24 [some (.ref 142), some (.int v8r), some (.int (bi (wqX B n X8r (lN 1497)))), some (.int v20r), none, none, none, none, none, none] [] (pp m 142 3 D23r K23r q 29 E L) 0 0
            refine And.intro ⟨by omega, Nat.le_of_ble_eq_true rfl, Nat.le_refl _, Nat.le_refl _⟩ (And.intro (Wdo_142 hW) ?_)
            refine X227 hW hN hdq hX23 (by omega) (fun D26r K26r v26r hX26 hy26 hv26 => ?_)
            generalize eX26 : rb X23r (fun i => rb (pGround (nI 1) B n i) fun a => .inr a.2) = X26r at hX26
            · -- a way behind the call
              show zw sc d 0 0 (mth 235).2.2.2.2.1 P235 (KJ sc d 0 0 (mth 235) P235 Q) Q 204 27 [some (.ref 142), some (.int v8r), some (.int (bi (wqX B n X8r (lN 1497)))), some (.int v20r), none, none, none, none, none, none] [.int v26r] (pp m 142 3 D26r K26r q 29 E L) 0 0
              refine And.intro ⟨by omega, Nat.le_of_ble_eq_true rfl, Nat.le_refl _, Nat.le_refl _⟩ (And.intro (Wdo_142 hW) ?_)
              refine X217 hW hN hdq hX26 (by omega) (fun D31r K31r v31r hX31 hy31 hv31 => ?_)
              generalize eX31 : rb X26r (fun i => rb (pWhole (nI 0) (nI 23) B n i) fun a => .inr a.2) = X31r at hX31
              · -- a way behind the call
                show zw sc d 0 0 (mth 235).2.2.2.2.1 P235 (KJ sc d 0 0 (mth 235) P235 Q) Q 199 32 [some (.ref 142), some (.int v8r), some (.int (bi (wqX B n X8r (lN 1497)))), some (.int v20r), some (.int v26r), none, none, none, none, none] [.int v31r] (pp m 142 3 D31r K31r q 29 E L) 0 0
                refine And.intro ⟨by omega, Nat.le_of_ble_eq_true rfl, Nat.le_refl _, Nat.le_refl _⟩ (And.intro (Wdo_142 hW) ?_)
                refine X218 (s0 := 48) (w := lN 655) hW hN hdq (by decide) (by decide) wo_48 hX31 (by omega) (fun D39r K39r v39r hX39 hy39 hv39 => ?_)
                generalize eX39a : rb X31r (fun i => pWord (lN 655) B n i) = X39ar at hX39 hv39
                generalize eX39 : rb X39ar (fun i => rb (pWhole (v31r + nI 1) (nI 24) B n i) fun a => .inr a.2) = X39r at hX39
                · -- a way behind the call
                  show zw sc d 0 0 (mth 235).2.2.2.2.1 P235 (KJ sc d 0 0 (mth 235) P235 Q) Q 191 40 [some (.ref 142), some (.int v8r), some (.int (bi (wqX B n X8r (lN 1497)))), some (.int v20r), some (.int v26r), some (.int v31r), none, none, none, none] [.int v39r] (pp m 142 3 D39r K39r q 29 E L) 0 0
                  refine And.intro (Wdo_142 hW) ?_
                  rw [pp_10 (x := 142) (by decide)]
                  refine And.intro (fun cz44 => ?_) (fun cz44 => ?_)
                  · -- 44 taken: ¬ D39r 0 9 = nI 5
                    obtain ⟨jr, ej⟩ := RX_n hX39 cz44; obtain ⟨p39r, pe39, ph39⟩ := rb_r (eX39.trans ej); obtain ⟨⟨a39r, q39r⟩, pf39, pg39⟩ := rb_r ph39; have vv39 := hv39 _ _ _ pe39 pf39; have pg39x : q39r = _ := Sum.inr.inj pg39; obtain ⟨p39ar, pe39a, ph39a⟩ := rb_r (eX39a.trans pe39); obtain ⟨p31r, pe31, ph31⟩ := rb_r (eX31.trans pe39a); obtain ⟨⟨a31r, q31r⟩, pf31, pg31⟩ := rb_r ph31; have vv31 := hv31 _ _ _ pe31 pf31; have pg31x : q31r = _ := Sum.inr.inj pg31; obtain ⟨p26r, pe26, ph26⟩ := rb_r (eX26.trans pe31); obtain ⟨⟨a26r, q26r⟩, pf26, pg26⟩ := rb_r ph26; have vv26 := hv26 _ _ _ pe26 pf26; have pg26x : q26r = _ := Sum.inr.inj pg26; obtain ⟨p23r, pe23, ph23⟩ := rb_r (eX23.trans pe26); obtain ⟨⟨a23r, q23r⟩, pf23, pg23⟩ := rb_r ph23; have vv23 := hv23 _ _ _ pe23 pf23; have pg23x : q23r = _ := Sum.inr.inj pg23; obtain ⟨p8r, pe8, ph8⟩ := rb_r (eX8.trans pe23); obtain ⟨⟨a8r, q8r⟩, pf8, pg8⟩ := rb_r ph8; have vv8 := hv8 _ _ _ pe8 pf8; have pg8x : q8r = _ := Sum.inr.inj pg8; have eb := eX5.trans pe8; obtain ⟨hb1, hb2, hb3⟩ := bgF_r eb
                    have hcn : nv (Λ 1 4) ≤ 6 := hc4q.2
                    have iv8 := TS_u hTS4 (by omega) pf8
                    rw [vv31] at pf39
                    have hcm : nv (Λ 1 2) ≤ 6 := hc2q.2
                    have iv23 := TS_u hTS2 (by omega) vv23.2
                    rw [vv8, iv8.1]
                    show Jj sc d 0 0 (mth 235) (pg P235 56).1 [some (.ref 142), some (.int (nI ((nv a8r)))), some (.int (bi (wqX B n X8r (lN 1497)))), some (.int v20r), some (.int v26r), some (.int v31r), some (.int v39r), some (.int ((nI 1 <<< (v39r &&& 31)) - (nI 1 <<< (v31r &&& 31)))), some (.int (nI 0)), none] [] (pp m 142 3 D39r K39r q 29 E L) 0 0 Q
                    refine J_wk (L' := [some (.ref 142), some (.int (nI ((nv a8r)))), some (.int (bi (wqX B n X8r (lN 1497)))), some (.int v20r), some (.int v26r), none, none, some (.int ((nI 1 <<< (v39r &&& 31)) - (nI 1 <<< (v31r &&& 31)))), some (.int (nI 0)), none]) ⟨rfl, rfl, rfl, rfl, rfl, rfl, rfl, trivial⟩ ?_
                    have hS : rb (bgF (nI (nv (Λ 1 5))) (nI 16) (E 0 0) B n i) (fun i => holdsL T Λ B n i) = .inr (T, htQ (nv a8r) a23r a26r (nI 1 <<< (a39r &&& 31) - nI 1 <<< (a31r &&& 31)) Λ 6, jr) := by
                      simp only [pf39, pg39x, ph39a, pf31, pg31x, pf26, pg26x, pf23, pg23x, pf8, pg8x, eb, rb_a, rb_i, holdsL]
                    have hgo : Q none (pp m 142 3 D39r K39r q 29 (ud (htQ (nv a8r) a23r a26r (nI 1 <<< (v39r &&& 31) - nI 1 <<< (v31r &&& 31)) E 6) 0 7 (htQ (nv a8r) a23r a26r (nI 1 <<< (v39r &&& 31) - nI 1 <<< (v31r &&& 31)) E 6 0 7 + nI 1)) L) := by
                      rw [ej] at hX39
                      refine hQ _ _ _ _ (FY_t (FY_t (FY_t (FY_t (FY_t (FY_t hy5 hy8) hy20) hy23) hy26) hy31) hy39) ?_
                      rw [hS, vv39, vv31]
                      exact ⟨hX39, hold_NR hNR (fun f hf => htQ_r hf _), hold_LQ (P := htQ (nv a8r) a23r a26r (nI 1 <<< (a39r &&& 31) - nI 1 <<< (a31r &&& 31)) Λ 6) ⟨hL0, hL1, hL2, hL3, hL4, hL5, hL6, hL7, hL8, hL9, hL10, hL11, hL12⟩ (fun f hf => htQ_r hf _) (fun f hf => htQ_r hf _) (ht_q (by omega) (Nat.le_refl _) hL5)⟩
                    have hfin := lhold_b (sc := sc) (d := d) (m := m) (Q := Q) (D := D39r) (K := K39r) (E := E) (L := L) (g := nv a8r) (y3 := v20r) (y := a23r) (s := a26r) (h := (nI 1 <<< (v39r &&& 31) - nI 1 <<< (v31r &&& 31))) hW hN hdq hq4 (by omega) (th_h cz15 vv23.1 iv23.1 iv23.2 hcm) (so_h vv26 (pGround_v pf26)) hgo 7 0 (by decide) (by decide)
                    rw [htQ_0] at hfin
                    exact hfin
                  · -- 44 not: D39r 0 9 = nI 5
                    refine And.intro ⟨rfl, rfl, Nat.le_refl _, Nat.le_refl _⟩ ?_
                    obtain ⟨er, ee⟩ := RX_5 hX39 cz44
                    rw [ee] at hX39
                    rw [← eX39a, ← eX31, rb_a] at eX39
                    have hB : rb (rb X26r (fun i => rb (pWhole (nI 0) (nI 23) B n i) fun a => .inr a.2)) (fun i => rb (pWord (lN 655) B n i) fun i => rb (pWhole (v31r + nI 1) (nI 24) B n i) fun a => .inr a.2) = _ := bindv (F := fun v i => rb (pWord (lN 655) B n i) fun i => rb (pWhole (v + nI 1) (nI 24) B n i) fun a => .inr a.2) hv31
                    rw [hB] at eX39
                    subst eX39
                    subst eX39a
                    subst eX31
                    subst eX26
                    subst eX23
                    subst eX8
                    subst eX5
                    refine hQ _ _ _ _ (FY_t (FY_t (FY_t (FY_t (FY_t (FY_t hy5 hy8) hy20) hy23) hy26) hy31) hy39) (lnPt_l (Eq.trans ?_ ee) hX39)
                    simp only [rb_a, rb_i, rb_d, holdsL]
      · -- 15 not: ¬ bi (wqX B n X8r (lN 1497)) = 0
        refine And.intro ⟨by omega, Nat.le_of_ble_eq_true rfl, Nat.le_refl _, Nat.le_refl _⟩ (And.intro (Wdo_142 hW) ?_)
        refine X211 hW hN hdq hX8 (fun i e => by rw [wq_2 (bi_ne0.mp cz15) e]; decide) (by omega) (fun D23r K23r hX23 hy23 => ?_)
        have han := any_y (T := T) (bi_ne0.mp cz15)
        rw [han.1] at hX23
        have hv23 := han.2
        generalize eX23 : rb X8r (fun i => rb (pAnyT T B n i) fun a => .inr a.2) = X23r at hX23
        · -- a way behind the call
          show zw sc d 0 0 (mth 235).2.2.2.2.1 P235 (KJ sc d 0 0 (mth 235) P235 Q) Q 208 24 [some (.ref 142), some (.int v8r), some (.int (bi (wqX B n X8r (lN 1497)))), some (.int (nI 0)), none, none, none, none, none, none] [] (pp m 142 3 D23r K23r q 29 E L) 0 0
          refine And.intro ⟨by omega, Nat.le_of_ble_eq_true rfl, Nat.le_refl _, Nat.le_refl _⟩ (And.intro (Wdo_142 hW) ?_)
          refine X227 hW hN hdq hX23 (by omega) (fun D26r K26r v26r hX26 hy26 hv26 => ?_)
          generalize eX26 : rb X23r (fun i => rb (pGround (nI 1) B n i) fun a => .inr a.2) = X26r at hX26
          · -- a way behind the call
            show zw sc d 0 0 (mth 235).2.2.2.2.1 P235 (KJ sc d 0 0 (mth 235) P235 Q) Q 205 27 [some (.ref 142), some (.int v8r), some (.int (bi (wqX B n X8r (lN 1497)))), some (.int (nI 0)), none, none, none, none, none, none] [.int v26r] (pp m 142 3 D26r K26r q 29 E L) 0 0
            refine And.intro ⟨by omega, Nat.le_of_ble_eq_true rfl, Nat.le_refl _, Nat.le_refl _⟩ (And.intro (Wdo_142 hW) ?_)
            refine X217 hW hN hdq hX26 (by omega) (fun D31r K31r v31r hX31 hy31 hv31 => ?_)
            generalize eX31 : rb X26r (fun i => rb (pWhole (nI 0) (nI 23) B n i) fun a => .inr a.2) = X31r at hX31
            · -- a way behind the call
              show zw sc d 0 0 (mth 235).2.2.2.2.1 P235 (KJ sc d 0 0 (mth 235) P235 Q) Q 200 32 [some (.ref 142), some (.int v8r), some (.int (bi (wqX B n X8r (lN 1497)))), some (.int (nI 0)), some (.int v26r), none, none, none, none, none] [.int v31r] (pp m 142 3 D31r K31r q 29 E L) 0 0
              refine And.intro ⟨by omega, Nat.le_of_ble_eq_true rfl, Nat.le_refl _, Nat.le_refl _⟩ (And.intro (Wdo_142 hW) ?_)
              refine X218 (s0 := 48) (w := lN 655) hW hN hdq (by decide) (by decide) wo_48 hX31 (by omega) (fun D39r K39r v39r hX39 hy39 hv39 => ?_)
              generalize eX39a : rb X31r (fun i => pWord (lN 655) B n i) = X39ar at hX39 hv39
              generalize eX39 : rb X39ar (fun i => rb (pWhole (v31r + nI 1) (nI 24) B n i) fun a => .inr a.2) = X39r at hX39
              · -- a way behind the call
                show zw sc d 0 0 (mth 235).2.2.2.2.1 P235 (KJ sc d 0 0 (mth 235) P235 Q) Q 192 40 [some (.ref 142), some (.int v8r), some (.int (bi (wqX B n X8r (lN 1497)))), some (.int (nI 0)), some (.int v26r), some (.int v31r), none, none, none, none] [.int v39r] (pp m 142 3 D39r K39r q 29 E L) 0 0
                refine And.intro (Wdo_142 hW) ?_
                rw [pp_10 (x := 142) (by decide)]
                refine And.intro (fun cz44 => ?_) (fun cz44 => ?_)
                · -- 44 taken: ¬ D39r 0 9 = nI 5
                  obtain ⟨jr, ej⟩ := RX_n hX39 cz44; obtain ⟨p39r, pe39, ph39⟩ := rb_r (eX39.trans ej); obtain ⟨⟨a39r, q39r⟩, pf39, pg39⟩ := rb_r ph39; have vv39 := hv39 _ _ _ pe39 pf39; have pg39x : q39r = _ := Sum.inr.inj pg39; obtain ⟨p39ar, pe39a, ph39a⟩ := rb_r (eX39a.trans pe39); obtain ⟨p31r, pe31, ph31⟩ := rb_r (eX31.trans pe39a); obtain ⟨⟨a31r, q31r⟩, pf31, pg31⟩ := rb_r ph31; have vv31 := hv31 _ _ _ pe31 pf31; have pg31x : q31r = _ := Sum.inr.inj pg31; obtain ⟨p26r, pe26, ph26⟩ := rb_r (eX26.trans pe31); obtain ⟨⟨a26r, q26r⟩, pf26, pg26⟩ := rb_r ph26; have vv26 := hv26 _ _ _ pe26 pf26; have pg26x : q26r = _ := Sum.inr.inj pg26; obtain ⟨p23r, pe23, ph23⟩ := rb_r (eX23.trans pe26); obtain ⟨⟨a23r, q23r⟩, pf23, pg23⟩ := rb_r ph23; have vv23 := hv23 _ _ _ pe23 pf23; have pg23x : q23r = _ := Sum.inr.inj pg23; obtain ⟨p8r, pe8, ph8⟩ := rb_r (eX8.trans pe23); obtain ⟨⟨a8r, q8r⟩, pf8, pg8⟩ := rb_r ph8; have vv8 := hv8 _ _ _ pe8 pf8; have pg8x : q8r = _ := Sum.inr.inj pg8; have eb := eX5.trans pe8; obtain ⟨hb1, hb2, hb3⟩ := bgF_r eb
                  have hcn : nv (Λ 1 4) ≤ 6 := hc4q.2
                  have iv8 := TS_u hTS4 (by omega) pf8
                  rw [vv31] at pf39
                  rw [vv8, iv8.1]
                  show Jj sc d 0 0 (mth 235) (pg P235 56).1 [some (.ref 142), some (.int (nI ((nv a8r)))), some (.int (bi (wqX B n X8r (lN 1497)))), some (.int (nI 0)), some (.int v26r), some (.int v31r), some (.int v39r), some (.int ((nI 1 <<< (v39r &&& 31)) - (nI 1 <<< (v31r &&& 31)))), some (.int (nI 0)), none] [] (pp m 142 3 D39r K39r q 29 E L) 0 0 Q
                  refine J_wk (L' := [some (.ref 142), some (.int (nI ((nv a8r)))), some (.int (bi (wqX B n X8r (lN 1497)))), some (.int (nI 0)), some (.int v26r), none, none, some (.int ((nI 1 <<< (v39r &&& 31)) - (nI 1 <<< (v31r &&& 31)))), some (.int (nI 0)), none]) ⟨rfl, rfl, rfl, rfl, rfl, rfl, rfl, trivial⟩ ?_
                  have hS : rb (bgF (nI (nv (Λ 1 5))) (nI 16) (E 0 0) B n i) (fun i => holdsL T Λ B n i) = .inr (T, htQ (nv a8r) a23r a26r (nI 1 <<< (a39r &&& 31) - nI 1 <<< (a31r &&& 31)) Λ 6, jr) := by
                    simp only [pf39, pg39x, ph39a, pf31, pg31x, pf26, pg26x, pf23, pg23x, pf8, pg8x, eb, rb_a, rb_i, holdsL]
                  have hgo : Q none (pp m 142 3 D39r K39r q 29 (ud (htQ (nv a8r) a23r a26r (nI 1 <<< (v39r &&& 31) - nI 1 <<< (v31r &&& 31)) E 6) 0 7 (htQ (nv a8r) a23r a26r (nI 1 <<< (v39r &&& 31) - nI 1 <<< (v31r &&& 31)) E 6 0 7 + nI 1)) L) := by
                    rw [ej] at hX39
                    refine hQ _ _ _ _ (FY_t (FY_t (FY_t (FY_t (FY_t hy5 hy8) hy23) hy26) hy31) hy39) ?_
                    rw [hS, vv39, vv31]
                    exact ⟨hX39, hold_NR hNR (fun f hf => htQ_r hf _), hold_LQ (P := htQ (nv a8r) a23r a26r (nI 1 <<< (a39r &&& 31) - nI 1 <<< (a31r &&& 31)) Λ 6) ⟨hL0, hL1, hL2, hL3, hL4, hL5, hL6, hL7, hL8, hL9, hL10, hL11, hL12⟩ (fun f hf => htQ_r hf _) (fun f hf => htQ_r hf _) (ht_q (by omega) (Nat.le_refl _) hL5)⟩
                  have hfin := lhold_b (sc := sc) (d := d) (m := m) (Q := Q) (D := D39r) (K := K39r) (E := E) (L := L) (g := nv a8r) (y3 := nI 0) (y := a23r) (s := a26r) (h := (nI 1 <<< (v39r &&& 31) - nI 1 <<< (v31r &&& 31))) hW hN hdq hq4 (by omega) (fun t => ⟨fun _ => Or.inl vv23.symm, fun _ => Or.inl cz15⟩) (so_h vv26 (pGround_v pf26)) hgo 7 0 (by decide) (by decide)
                  rw [htQ_0] at hfin
                  exact hfin
                · -- 44 not: D39r 0 9 = nI 5
                  refine And.intro ⟨rfl, rfl, Nat.le_refl _, Nat.le_refl _⟩ ?_
                  obtain ⟨er, ee⟩ := RX_5 hX39 cz44
                  rw [ee] at hX39
                  rw [← eX39a, ← eX31, rb_a] at eX39
                  have hB : rb (rb X26r (fun i => rb (pWhole (nI 0) (nI 23) B n i) fun a => .inr a.2)) (fun i => rb (pWord (lN 655) B n i) fun i => rb (pWhole (v31r + nI 1) (nI 24) B n i) fun a => .inr a.2) = _ := bindv (F := fun v i => rb (pWord (lN 655) B n i) fun i => rb (pWhole (v + nI 1) (nI 24) B n i) fun a => .inr a.2) hv31
                  rw [hB] at eX39
                  subst eX39
                  subst eX39a
                  subst eX31
                  subst eX26
                  subst eX23
                  subst eX8
                  subst eX5
                  refine hQ _ _ _ _ (FY_t (FY_t (FY_t (FY_t (FY_t hy5 hy8) hy23) hy26) hy31) hy39) (lnPt_l (Eq.trans ?_ ee) hX39)
                  simp only [rb_a, rb_i, rb_d, holdsL]
